/-! THE HEAP OF A LandUses (written by wip/gen_unit.py) -/
def k_pls : Nat → Option Nat := fun i => if i < 6 then some (18 + 2 * i) else none
def k_U (fr : Int64) (gt : Nat) (pn : Nat) (yr : Nat) (wg : Int32) (se : Bool) (sw : Bool) (n : Nat) (g : Nat → Int32) (rp : Nat) (rq : Int32) (f : Nat → Int64) (so : Nat → Int32) (nx : Nat → Int64) (pl : Nat → Nat → Int64) (mL : Nat) (qL : Nat → kL) (mS : Nat) (qS : Nat → kL) (sb : Nat) (cnt : Nat) (fd : Bool) (bw : Int32) (F : Nat → Int64) (sqs : Nat → Nat) (bu : Nat → Int64) (wb : Nat → Int32) (o : mH) : mH :=
  .inr (7, [.ref 1, .ref 3, .ref 4, .ref 62, .ref 15, .ref 17, .ref (bif sw then 46 else 30), .ref (bif sw then 30 else 46), .long fr, .int (nI gt), .int (nI pn), .int (nI yr), .int wg, .int (k_z se)]) ::
  k_tp 2 n ::
  k_ba 400 g ::
  k_rd 1 rp rq ::
  .inr (1, [.ref 5, .ref 7, .ref 8]) ::
  k_uses 6 ::
  k_la 5 f ::
  k_ia 60 so ::
  k_ra 6 6 (k_arows (k_w0 5)) ::
  k_la 60 (k_arow 0) ::
  k_la 60 (k_arow 1) ::
  k_la 60 (k_arow 2) ::
  k_la 60 (k_arow 3) ::
  k_la 60 (k_arow 4) ::
  k_la 60 (k_arow 5) ::
  k_uses 16 ::
  k_la 5 nx ::
  k_ra 5 6 k_pls ::
  k_uses 19 ::
  k_la 5 (pl 0) ::
  k_uses 21 ::
  k_la 5 (pl 1) ::
  k_uses 23 ::
  k_la 5 (pl 2) ::
  k_uses 25 ::
  k_la 5 (pl 3) ::
  k_uses 27 ::
  k_la 5 (pl 4) ::
  k_uses 29 ::
  k_la 5 (pl 5) ::
  .inr (0, [.ref 31, .int (nI (bif sw then mS else mL))]) ::
  k_ra 4 14 (k_rws (fun i => 31 + 1 + i)) ::
  k_ln (bif sw then qS 0 else qL 0) ::
  k_ln (bif sw then qS 1 else qL 1) ::
  k_ln (bif sw then qS 2 else qL 2) ::
  k_ln (bif sw then qS 3 else qL 3) ::
  k_ln (bif sw then qS 4 else qL 4) ::
  k_ln (bif sw then qS 5 else qL 5) ::
  k_ln (bif sw then qS 6 else qL 6) ::
  k_ln (bif sw then qS 7 else qL 7) ::
  k_ln (bif sw then qS 8 else qL 8) ::
  k_ln (bif sw then qS 9 else qL 9) ::
  k_ln (bif sw then qS 10 else qL 10) ::
  k_ln (bif sw then qS 11 else qL 11) ::
  k_ln (bif sw then qS 12 else qL 12) ::
  k_ln (bif sw then qS 13 else qL 13) ::
  .inr (0, [.ref 47, .int (nI (bif sw then mL else mS))]) ::
  k_ra 4 14 (k_rws (fun i => 47 + 1 + i)) ::
  k_ln (bif sw then qL 0 else qS 0) ::
  k_ln (bif sw then qL 1 else qS 1) ::
  k_ln (bif sw then qL 2 else qS 2) ::
  k_ln (bif sw then qL 3 else qS 3) ::
  k_ln (bif sw then qL 4 else qS 4) ::
  k_ln (bif sw then qL 5 else qS 5) ::
  k_ln (bif sw then qL 6 else qS 6) ::
  k_ln (bif sw then qL 7 else qS 7) ::
  k_ln (bif sw then qL 8 else qS 8) ::
  k_ln (bif sw then qL 9 else qS 9) ::
  k_ln (bif sw then qL 10 else qS 10) ::
  k_ln (bif sw then qL 11 else qS 11) ::
  k_ln (bif sw then qL 12 else qS 12) ::
  k_ln (bif sw then qL 13 else qS 13) ::
  k_so 63 66 67 69 sb cnt fd bw ::
  .inr (1, [.ref 64, .ref 7, .ref 8]) ::
  k_uses 65 ::
  k_la 5 F ::
  k_ia 5 (fun i => nI (sqs i)) ::
  k_uses 68 ::
  k_la 5 bu ::
  k_ia 14 wb :: o
theorem m_J_S {l : Launch} {EX : State → Prop} {E : mE} {M : mM} {d mc ms : Nat} {PR : Option Value → mH → Bool → Prop} {PX : String → mH → Prop} {tg : Bool} {kc ks : Nat} {S S2 : mS} (h : S = S2) (h2 : m_J l EX E M d mc ms PR PX tg kc ks S2) : m_J l EX E M d mc ms PR PX tg kc ks S := h ▸ h2
section
variable {l : Launch} {E : mE} {N : Nat} {xs : Nat → Int32} {d : Nat}
set_option maxHeartbeats 4000000 in
set_option maxRecDepth 4000 in
theorem c_unit : m_Dt l (m_EX E N xs) E mM_X8_init (d + 3) 69 1158 [.ref 0] [.inr (7, [.null, .null, .null, .null, .null, .null, .null, .null, .long 0, .int (nI 0), .int (nI 0), .int (nI 0), .int (nI 0), .int (nI 0)])] true none (k_U 0 0 0 0 (-nI 1) false false 0 (fun _ => nI 0) 0 (-nI 1) k_u0 (fun _ => nI 0) k_u0 (fun _ => k_u0) 0 (fun _ => k_q0) 0 (fun _ => k_q0) 30 0 false (nI 0) k_u0 (fun _ => 0) k_u0 (fun _ => nI 0) []) true := by
  have hM := mM_X8_init_ok
  refine m_Sp_of (by decide) (Nat.le_of_ble_eq_true rfl) ?_
  refine m_J_run hM 1 rfl ⟨trivial, trivial⟩ ?_
  refine m_J_obj hM rfl kw_X8_3 (Nat.le_of_ble_eq_true rfl) ?_
  refine m_J_run hM 1 rfl ⟨trivial, trivial⟩ ?_
  refine m_newC (ci := 5) (K := 2) (fs := [.null, .int (nI 0)]) hM rfl kn_X8_9 rfl rfl rfl (Nat.le_of_ble_eq_true rfl) (Nat.le_of_ble_eq_true rfl) (Nat.le_of_ble_eq_true rfl) ?_
  refine m_J_S (S2 := (8, [some (.ref 0), none], [.ref 1, .ref 0], [.inr (7, [.null, .null, .null, .null, .null, .null, .null, .null, .long 0, .int (nI 0), .int (nI 0), .int (nI 0), .int (nI 0), .int (nI 0)]), .inr (5, [.null, .int (nI 0)])])) rfl ?_
  refine m_J_run hM 1 rfl ⟨trivial, trivial⟩ ?_
  refine m_J_callI false (as := []) (rest := [.ref 1, .ref 0]) (m_EX_warm E N xs) hM rfl kw_X8_11 rfl rfl rfl (Nat.le_of_ble_eq_true rfl) (Nat.le_of_ble_eq_true rfl) (Nat.le_of_ble_eq_true rfl) (c_tape rfl (by decide)) (fun v9 h9 tg9 hp9 => ?_)
  obtain ⟨rfl, rfl, hp9⟩ := hp9
  refine ⟨fun _ => ⟨rfl, by rw [hp9.1]; exact Nat.le_refl _⟩, ?_⟩
  have e9 := k_e_tape (by decide) hp9
  clear hp9; subst e9
  refine m_J_S (S2 := (12, [some (.ref 0), none], [.ref 1, .ref 0], [.inr (7, [.null, .null, .null, .null, .null, .null, .null, .null, .long 0, .int (nI 0), .int (nI 0), .int (nI 0), .int (nI 0), .int (nI 0)]), k_tp 2 0, k_ba 400 (fun _ => nI 0)])) rfl ?_
  refine m_J_putc hM rfl rfl (rfl) (rfl) (by decide) ?_
  refine m_J_S (S2 := (15, [some (.ref 0), none], [], [.inr (7, [.ref 1, .null, .null, .null, .null, .null, .null, .null, .long 0, .int (nI 0), .int (nI 0), .int (nI 0), .int (nI 0), .int (nI 0)]), k_tp 2 0, k_ba 400 (fun _ => nI 0)])) rfl ?_
  refine m_J_run hM 1 rfl ⟨trivial, trivial⟩ ?_
  refine m_newC (ci := 3) (K := 3) (fs := [.null, .int (nI 0), .int (nI 0)]) hM rfl kn_X8_16 rfl rfl rfl (Nat.le_of_ble_eq_true rfl) (Nat.le_of_ble_eq_true rfl) (Nat.le_of_ble_eq_true rfl) ?_
  refine m_J_S (S2 := (19, [some (.ref 0), none], [.ref 3, .ref 0], [.inr (7, [.ref 1, .null, .null, .null, .null, .null, .null, .null, .long 0, .int (nI 0), .int (nI 0), .int (nI 0), .int (nI 0), .int (nI 0)]), k_tp 2 0, k_ba 400 (fun _ => nI 0), .inr (3, [.null, .int (nI 0), .int (nI 0)])])) rfl ?_
  refine m_J_run hM 2 rfl ⟨trivial, trivial, trivial⟩ ?_
  refine m_J_getf hM rfl rfl (rfl) (rfl) ?_
  refine m_J_callI false (as := [.ref 1]) (rest := [.ref 3, .ref 0]) (m_EX_warm E N xs) hM rfl kw_X8_18 rfl rfl rfl (Nat.le_of_ble_eq_true rfl) (Nat.le_of_ble_eq_true rfl) (Nat.le_of_ble_eq_true rfl) (c_reader rfl) (fun v9 h9 tg9 hp9 => ?_)
  obtain ⟨rfl, rfl, hp9⟩ := hp9
  refine ⟨fun _ => ⟨rfl, by rw [hp9.1]; exact Nat.le_refl _⟩, ?_⟩
  have e9 := k_e_reader (by decide) hp9
  clear hp9; subst e9
  refine m_J_S (S2 := (27, [some (.ref 0), none], [.ref 3, .ref 0], [.inr (7, [.ref 1, .null, .null, .null, .null, .null, .null, .null, .long 0, .int (nI 0), .int (nI 0), .int (nI 0), .int (nI 0), .int (nI 0)]), k_tp 2 0, k_ba 400 (fun _ => nI 0), k_rd 1 0 (-nI 1)])) rfl ?_
  refine m_J_putc hM rfl rfl (rfl) (rfl) (by decide) ?_
  refine m_J_S (S2 := (30, [some (.ref 0), none], [], [.inr (7, [.ref 1, .ref 3, .null, .null, .null, .null, .null, .null, .long 0, .int (nI 0), .int (nI 0), .int (nI 0), .int (nI 0), .int (nI 0)]), k_tp 2 0, k_ba 400 (fun _ => nI 0), k_rd 1 0 (-nI 1)])) rfl ?_
  refine m_J_run hM 1 rfl ⟨trivial, trivial⟩ ?_
  refine m_newC (ci := 1) (K := 3) (fs := [.null, .null, .null]) hM rfl kn_X8_25 rfl rfl rfl (Nat.le_of_ble_eq_true rfl) (Nat.le_of_ble_eq_true rfl) (Nat.le_of_ble_eq_true rfl) ?_
  refine m_J_S (S2 := (34, [some (.ref 0), none], [.ref 4, .ref 0], [.inr (7, [.ref 1, .ref 3, .null, .null, .null, .null, .null, .null, .long 0, .int (nI 0), .int (nI 0), .int (nI 0), .int (nI 0), .int (nI 0)]), k_tp 2 0, k_ba 400 (fun _ => nI 0), k_rd 1 0 (-nI 1), .inr (1, [.null, .null, .null])])) rfl ?_
  refine m_J_run hM 1 rfl ⟨trivial, trivial⟩ ?_
  refine m_J_callI false (as := []) (rest := [.ref 4, .ref 0]) (m_EX_warm E N xs) hM rfl kw_X8_27 rfl rfl rfl (Nat.le_of_ble_eq_true rfl) (Nat.le_of_ble_eq_true rfl) (Nat.le_of_ble_eq_true rfl) (c_land rfl (by decide)) (fun v9 h9 tg9 hp9 => ?_)
  obtain ⟨rfl, rfl, hp9⟩ := hp9
  refine ⟨fun _ => ⟨rfl, by rw [hp9.1]; exact Nat.le_refl _⟩, ?_⟩
  have e9 := k_e_land (by decide) hp9
  clear hp9; subst e9
  refine m_J_S (S2 := (38, [some (.ref 0), none], [.ref 4, .ref 0], [.inr (7, [.ref 1, .ref 3, .null, .null, .null, .null, .null, .null, .long 0, .int (nI 0), .int (nI 0), .int (nI 0), .int (nI 0), .int (nI 0)]), k_tp 2 0, k_ba 400 (fun _ => nI 0), k_rd 1 0 (-nI 1), .inr (1, [.ref 5, .ref 7, .ref 8]), k_uses 6, k_la 5 k_u0, k_ia 60 (fun _ => nI 0), k_ra 6 6 (k_arows (k_w0 5)), k_la 60 (k_arow 0), k_la 60 (k_arow 1), k_la 60 (k_arow 2), k_la 60 (k_arow 3), k_la 60 (k_arow 4), k_la 60 (k_arow 5)])) rfl ?_
  refine m_J_putc hM rfl rfl (rfl) (rfl) (by decide) ?_
  refine m_J_S (S2 := (41, [some (.ref 0), none], [], [.inr (7, [.ref 1, .ref 3, .ref 4, .null, .null, .null, .null, .null, .long 0, .int (nI 0), .int (nI 0), .int (nI 0), .int (nI 0), .int (nI 0)]), k_tp 2 0, k_ba 400 (fun _ => nI 0), k_rd 1 0 (-nI 1), .inr (1, [.ref 5, .ref 7, .ref 8]), k_uses 6, k_la 5 k_u0, k_ia 60 (fun _ => nI 0), k_ra 6 6 (k_arows (k_w0 5)), k_la 60 (k_arow 0), k_la 60 (k_arow 1), k_la 60 (k_arow 2), k_la 60 (k_arow 3), k_la 60 (k_arow 4), k_la 60 (k_arow 5)])) rfl ?_
  refine m_J_run hM 1 rfl ⟨trivial, trivial⟩ ?_
  refine m_newC (ci := 6) (K := 1) (fs := [.null]) hM rfl kn_X8_32 rfl rfl rfl (Nat.le_of_ble_eq_true rfl) (Nat.le_of_ble_eq_true rfl) (Nat.le_of_ble_eq_true rfl) ?_
  refine m_J_S (S2 := (45, [some (.ref 0), none], [.ref 15, .ref 0], [.inr (7, [.ref 1, .ref 3, .ref 4, .null, .null, .null, .null, .null, .long 0, .int (nI 0), .int (nI 0), .int (nI 0), .int (nI 0), .int (nI 0)]), k_tp 2 0, k_ba 400 (fun _ => nI 0), k_rd 1 0 (-nI 1), .inr (1, [.ref 5, .ref 7, .ref 8]), k_uses 6, k_la 5 k_u0, k_ia 60 (fun _ => nI 0), k_ra 6 6 (k_arows (k_w0 5)), k_la 60 (k_arow 0), k_la 60 (k_arow 1), k_la 60 (k_arow 2), k_la 60 (k_arow 3), k_la 60 (k_arow 4), k_la 60 (k_arow 5), .inr (6, [.null])])) rfl ?_
  refine m_J_run hM 1 rfl ⟨trivial, trivial⟩ ?_
  refine m_J_callI false (as := []) (rest := [.ref 15, .ref 0]) (m_EX_warm E N xs) hM rfl kw_X8_34 rfl rfl rfl (Nat.le_of_ble_eq_true rfl) (Nat.le_of_ble_eq_true rfl) (Nat.le_of_ble_eq_true rfl) (c_uses rfl (by decide)) (fun v9 h9 tg9 hp9 => ?_)
  obtain ⟨rfl, rfl, hp9⟩ := hp9
  refine ⟨fun _ => ⟨rfl, by rw [hp9.1]; exact Nat.le_refl _⟩, ?_⟩
  have e9 := k_e_uses (by decide) hp9
  clear hp9; subst e9
  refine m_J_S (S2 := (49, [some (.ref 0), none], [.ref 15, .ref 0], [.inr (7, [.ref 1, .ref 3, .ref 4, .null, .null, .null, .null, .null, .long 0, .int (nI 0), .int (nI 0), .int (nI 0), .int (nI 0), .int (nI 0)]), k_tp 2 0, k_ba 400 (fun _ => nI 0), k_rd 1 0 (-nI 1), .inr (1, [.ref 5, .ref 7, .ref 8]), k_uses 6, k_la 5 k_u0, k_ia 60 (fun _ => nI 0), k_ra 6 6 (k_arows (k_w0 5)), k_la 60 (k_arow 0), k_la 60 (k_arow 1), k_la 60 (k_arow 2), k_la 60 (k_arow 3), k_la 60 (k_arow 4), k_la 60 (k_arow 5), k_uses 16, k_la 5 k_u0])) rfl ?_
  refine m_J_putc hM rfl rfl (rfl) (rfl) (by decide) ?_
  refine m_J_S (S2 := (52, [some (.ref 0), none], [], [.inr (7, [.ref 1, .ref 3, .ref 4, .null, .ref 15, .null, .null, .null, .long 0, .int (nI 0), .int (nI 0), .int (nI 0), .int (nI 0), .int (nI 0)]), k_tp 2 0, k_ba 400 (fun _ => nI 0), k_rd 1 0 (-nI 1), .inr (1, [.ref 5, .ref 7, .ref 8]), k_uses 6, k_la 5 k_u0, k_ia 60 (fun _ => nI 0), k_ra 6 6 (k_arows (k_w0 5)), k_la 60 (k_arow 0), k_la 60 (k_arow 1), k_la 60 (k_arow 2), k_la 60 (k_arow 3), k_la 60 (k_arow 4), k_la 60 (k_arow 5), k_uses 16, k_la 5 k_u0])) rfl ?_
  refine m_J_run hM 2 rfl ⟨trivial, trivial, trivial⟩ ?_
  refine m_J_anew (ti := 5) (K := 6) hM rfl kl_X8_32 rfl (by simp) (by decide) (by decide) (Nat.le_of_ble_eq_true rfl) (Nat.le_of_ble_eq_true rfl) (Nat.le_of_ble_eq_true rfl) (Nat.le_of_ble_eq_true rfl) ?_
  refine m_J_S (S2 := (58, [some (.ref 0), none], [.ref 17, .ref 0], [.inr (7, [.ref 1, .ref 3, .ref 4, .null, .ref 15, .null, .null, .null, .long 0, .int (nI 0), .int (nI 0), .int (nI 0), .int (nI 0), .int (nI 0)]), k_tp 2 0, k_ba 400 (fun _ => nI 0), k_rd 1 0 (-nI 1), .inr (1, [.ref 5, .ref 7, .ref 8]), k_uses 6, k_la 5 k_u0, k_ia 60 (fun _ => nI 0), k_ra 6 6 (k_arows (k_w0 5)), k_la 60 (k_arow 0), k_la 60 (k_arow 1), k_la 60 (k_arow 2), k_la 60 (k_arow 3), k_la 60 (k_arow 4), k_la 60 (k_arow 5), k_uses 16, k_la 5 k_u0, k_ra 5 6 (fun _ => none)])) rfl ?_
  refine m_J_putc hM rfl rfl (rfl) (rfl) (by decide) ?_
  refine m_J_S (S2 := (61, [some (.ref 0), none], [], [.inr (7, [.ref 1, .ref 3, .ref 4, .null, .ref 15, .ref 17, .null, .null, .long 0, .int (nI 0), .int (nI 0), .int (nI 0), .int (nI 0), .int (nI 0)]), k_tp 2 0, k_ba 400 (fun _ => nI 0), k_rd 1 0 (-nI 1), .inr (1, [.ref 5, .ref 7, .ref 8]), k_uses 6, k_la 5 k_u0, k_ia 60 (fun _ => nI 0), k_ra 6 6 (k_arows (k_w0 5)), k_la 60 (k_arow 0), k_la 60 (k_arow 1), k_la 60 (k_arow 2), k_la 60 (k_arow 3), k_la 60 (k_arow 4), k_la 60 (k_arow 5), k_uses 16, k_la 5 k_u0, k_ra 5 6 (fun _ => none)])) rfl ?_
  refine m_J_run hM 2 rfl ⟨trivial, trivial, trivial⟩ ?_
  refine m_J_S (S2 := (63, [some (.ref 0), some (.int (nI 0))], [], [.inr (7, [.ref 1, .ref 3, .ref 4, .null, .ref 15, .ref 17, .null, .null, .long 0, .int (nI 0), .int (nI 0), .int (nI 0), .int (nI 0), .int (nI 0)]), k_tp 2 0, k_ba 400 (fun _ => nI 0), k_rd 1 0 (-nI 1), .inr (1, [.ref 5, .ref 7, .ref 8]), k_uses 6, k_la 5 k_u0, k_ia 60 (fun _ => nI 0), k_ra 6 6 (k_arows (k_w0 5)), k_la 60 (k_arow 0), k_la 60 (k_arow 1), k_la 60 (k_arow 2), k_la 60 (k_arow 3), k_la 60 (k_arow 4), k_la 60 (k_arow 5), k_uses 16, k_la 5 k_u0, k_ra 5 6 (fun _ => none)])) rfl ?_
  refine m_J_run hM 3 rfl ⟨trivial, trivial, trivial, trivial⟩ ?_
  refine m_J_if (fun hc => absurd hc (by decide)) (fun _ => ?_)
  refine m_J_run hM 1 rfl ⟨trivial, trivial⟩ ?_
  refine m_J_getf hM rfl rfl (rfl) (rfl) ?_
  refine m_J_run hM 1 rfl ⟨trivial, trivial⟩ ?_
  refine m_newC (ci := 6) (K := 1) (fs := [.null]) hM rfl kn_X8_32 rfl rfl rfl (Nat.le_of_ble_eq_true rfl) (Nat.le_of_ble_eq_true rfl) (Nat.le_of_ble_eq_true rfl) ?_
  refine m_J_S (S2 := (77, [some (.ref 0), some (.int (nI 0))], [.ref 18, .int (nI 0), .ref 17], [.inr (7, [.ref 1, .ref 3, .ref 4, .null, .ref 15, .ref 17, .null, .null, .long 0, .int (nI 0), .int (nI 0), .int (nI 0), .int (nI 0), .int (nI 0)]), k_tp 2 0, k_ba 400 (fun _ => nI 0), k_rd 1 0 (-nI 1), .inr (1, [.ref 5, .ref 7, .ref 8]), k_uses 6, k_la 5 k_u0, k_ia 60 (fun _ => nI 0), k_ra 6 6 (k_arows (k_w0 5)), k_la 60 (k_arow 0), k_la 60 (k_arow 1), k_la 60 (k_arow 2), k_la 60 (k_arow 3), k_la 60 (k_arow 4), k_la 60 (k_arow 5), k_uses 16, k_la 5 k_u0, k_ra 5 6 (fun _ => none), .inr (6, [.null])])) rfl ?_
  refine m_J_run hM 1 rfl ⟨trivial, trivial⟩ ?_
  refine m_J_callI false (as := []) (rest := [.ref 18, .int (nI 0), .ref 17]) (m_EX_warm E N xs) hM rfl kw_X8_34 rfl rfl rfl (Nat.le_of_ble_eq_true rfl) (Nat.le_of_ble_eq_true rfl) (Nat.le_of_ble_eq_true rfl) (c_uses rfl (by decide)) (fun v9 h9 tg9 hp9 => ?_)
  obtain ⟨rfl, rfl, hp9⟩ := hp9
  refine ⟨fun _ => ⟨rfl, by rw [hp9.1]; exact Nat.le_refl _⟩, ?_⟩
  have e9 := k_e_uses (by decide) hp9
  clear hp9; subst e9
  refine m_J_S (S2 := (81, [some (.ref 0), some (.int (nI 0))], [.ref 18, .int (nI 0), .ref 17], [.inr (7, [.ref 1, .ref 3, .ref 4, .null, .ref 15, .ref 17, .null, .null, .long 0, .int (nI 0), .int (nI 0), .int (nI 0), .int (nI 0), .int (nI 0)]), k_tp 2 0, k_ba 400 (fun _ => nI 0), k_rd 1 0 (-nI 1), .inr (1, [.ref 5, .ref 7, .ref 8]), k_uses 6, k_la 5 k_u0, k_ia 60 (fun _ => nI 0), k_ra 6 6 (k_arows (k_w0 5)), k_la 60 (k_arow 0), k_la 60 (k_arow 1), k_la 60 (k_arow 2), k_la 60 (k_arow 3), k_la 60 (k_arow 4), k_la 60 (k_arow 5), k_uses 16, k_la 5 k_u0, k_ra 5 6 (fun _ => none), k_uses 19, k_la 5 k_u0])) rfl ?_
  refine m_aastN (ci := 6) (ti := 5) (n := 6) hM rfl rfl rfl (Or.inr ⟨rfl, rfl⟩) (by decide) (by decide) ?_
  refine m_J_run hM 2 rfl ⟨trivial, trivial, trivial⟩ ?_
  refine m_J_S (S2 := (63, [some (.ref 0), some (.int (nI 1))], [], [.inr (7, [.ref 1, .ref 3, .ref 4, .null, .ref 15, .ref 17, .null, .null, .long 0, .int (nI 0), .int (nI 0), .int (nI 0), .int (nI 0), .int (nI 0)]), k_tp 2 0, k_ba 400 (fun _ => nI 0), k_rd 1 0 (-nI 1), .inr (1, [.ref 5, .ref 7, .ref 8]), k_uses 6, k_la 5 k_u0, k_ia 60 (fun _ => nI 0), k_ra 6 6 (k_arows (k_w0 5)), k_la 60 (k_arow 0), k_la 60 (k_arow 1), k_la 60 (k_arow 2), k_la 60 (k_arow 3), k_la 60 (k_arow 4), k_la 60 (k_arow 5), k_uses 16, k_la 5 k_u0, k_ra 5 6 (va_up (fun _ => none) 0 (some 18)), k_uses 19, k_la 5 k_u0])) rfl ?_
  refine m_J_run hM 3 rfl ⟨trivial, trivial, trivial, trivial⟩ ?_
  refine m_J_if (fun hc => absurd hc (by decide)) (fun _ => ?_)
  refine m_J_run hM 1 rfl ⟨trivial, trivial⟩ ?_
  refine m_J_getf hM rfl rfl (rfl) (rfl) ?_
  refine m_J_run hM 1 rfl ⟨trivial, trivial⟩ ?_
  refine m_newC (ci := 6) (K := 1) (fs := [.null]) hM rfl kn_X8_32 rfl rfl rfl (Nat.le_of_ble_eq_true rfl) (Nat.le_of_ble_eq_true rfl) (Nat.le_of_ble_eq_true rfl) ?_
  refine m_J_S (S2 := (77, [some (.ref 0), some (.int (nI 1))], [.ref 20, .int (nI 1), .ref 17], [.inr (7, [.ref 1, .ref 3, .ref 4, .null, .ref 15, .ref 17, .null, .null, .long 0, .int (nI 0), .int (nI 0), .int (nI 0), .int (nI 0), .int (nI 0)]), k_tp 2 0, k_ba 400 (fun _ => nI 0), k_rd 1 0 (-nI 1), .inr (1, [.ref 5, .ref 7, .ref 8]), k_uses 6, k_la 5 k_u0, k_ia 60 (fun _ => nI 0), k_ra 6 6 (k_arows (k_w0 5)), k_la 60 (k_arow 0), k_la 60 (k_arow 1), k_la 60 (k_arow 2), k_la 60 (k_arow 3), k_la 60 (k_arow 4), k_la 60 (k_arow 5), k_uses 16, k_la 5 k_u0, k_ra 5 6 (va_up (fun _ => none) 0 (some 18)), k_uses 19, k_la 5 k_u0, .inr (6, [.null])])) rfl ?_
  refine m_J_run hM 1 rfl ⟨trivial, trivial⟩ ?_
  refine m_J_callI false (as := []) (rest := [.ref 20, .int (nI 1), .ref 17]) (m_EX_warm E N xs) hM rfl kw_X8_34 rfl rfl rfl (Nat.le_of_ble_eq_true rfl) (Nat.le_of_ble_eq_true rfl) (Nat.le_of_ble_eq_true rfl) (c_uses rfl (by decide)) (fun v9 h9 tg9 hp9 => ?_)
  obtain ⟨rfl, rfl, hp9⟩ := hp9
  refine ⟨fun _ => ⟨rfl, by rw [hp9.1]; exact Nat.le_refl _⟩, ?_⟩
  have e9 := k_e_uses (by decide) hp9
  clear hp9; subst e9
  refine m_J_S (S2 := (81, [some (.ref 0), some (.int (nI 1))], [.ref 20, .int (nI 1), .ref 17], [.inr (7, [.ref 1, .ref 3, .ref 4, .null, .ref 15, .ref 17, .null, .null, .long 0, .int (nI 0), .int (nI 0), .int (nI 0), .int (nI 0), .int (nI 0)]), k_tp 2 0, k_ba 400 (fun _ => nI 0), k_rd 1 0 (-nI 1), .inr (1, [.ref 5, .ref 7, .ref 8]), k_uses 6, k_la 5 k_u0, k_ia 60 (fun _ => nI 0), k_ra 6 6 (k_arows (k_w0 5)), k_la 60 (k_arow 0), k_la 60 (k_arow 1), k_la 60 (k_arow 2), k_la 60 (k_arow 3), k_la 60 (k_arow 4), k_la 60 (k_arow 5), k_uses 16, k_la 5 k_u0, k_ra 5 6 (va_up (fun _ => none) 0 (some 18)), k_uses 19, k_la 5 k_u0, k_uses 21, k_la 5 k_u0])) rfl ?_
  refine m_aastN (ci := 6) (ti := 5) (n := 6) hM rfl rfl rfl (Or.inr ⟨rfl, rfl⟩) (by decide) (by decide) ?_
  refine m_J_run hM 2 rfl ⟨trivial, trivial, trivial⟩ ?_
  refine m_J_S (S2 := (63, [some (.ref 0), some (.int (nI 2))], [], [.inr (7, [.ref 1, .ref 3, .ref 4, .null, .ref 15, .ref 17, .null, .null, .long 0, .int (nI 0), .int (nI 0), .int (nI 0), .int (nI 0), .int (nI 0)]), k_tp 2 0, k_ba 400 (fun _ => nI 0), k_rd 1 0 (-nI 1), .inr (1, [.ref 5, .ref 7, .ref 8]), k_uses 6, k_la 5 k_u0, k_ia 60 (fun _ => nI 0), k_ra 6 6 (k_arows (k_w0 5)), k_la 60 (k_arow 0), k_la 60 (k_arow 1), k_la 60 (k_arow 2), k_la 60 (k_arow 3), k_la 60 (k_arow 4), k_la 60 (k_arow 5), k_uses 16, k_la 5 k_u0, k_ra 5 6 (va_up (va_up (fun _ => none) 0 (some 18)) 1 (some 20)), k_uses 19, k_la 5 k_u0, k_uses 21, k_la 5 k_u0])) rfl ?_
  refine m_J_run hM 3 rfl ⟨trivial, trivial, trivial, trivial⟩ ?_
  refine m_J_if (fun hc => absurd hc (by decide)) (fun _ => ?_)
  refine m_J_run hM 1 rfl ⟨trivial, trivial⟩ ?_
  refine m_J_getf hM rfl rfl (rfl) (rfl) ?_
  refine m_J_run hM 1 rfl ⟨trivial, trivial⟩ ?_
  refine m_newC (ci := 6) (K := 1) (fs := [.null]) hM rfl kn_X8_32 rfl rfl rfl (Nat.le_of_ble_eq_true rfl) (Nat.le_of_ble_eq_true rfl) (Nat.le_of_ble_eq_true rfl) ?_
  refine m_J_S (S2 := (77, [some (.ref 0), some (.int (nI 2))], [.ref 22, .int (nI 2), .ref 17], [.inr (7, [.ref 1, .ref 3, .ref 4, .null, .ref 15, .ref 17, .null, .null, .long 0, .int (nI 0), .int (nI 0), .int (nI 0), .int (nI 0), .int (nI 0)]), k_tp 2 0, k_ba 400 (fun _ => nI 0), k_rd 1 0 (-nI 1), .inr (1, [.ref 5, .ref 7, .ref 8]), k_uses 6, k_la 5 k_u0, k_ia 60 (fun _ => nI 0), k_ra 6 6 (k_arows (k_w0 5)), k_la 60 (k_arow 0), k_la 60 (k_arow 1), k_la 60 (k_arow 2), k_la 60 (k_arow 3), k_la 60 (k_arow 4), k_la 60 (k_arow 5), k_uses 16, k_la 5 k_u0, k_ra 5 6 (va_up (va_up (fun _ => none) 0 (some 18)) 1 (some 20)), k_uses 19, k_la 5 k_u0, k_uses 21, k_la 5 k_u0, .inr (6, [.null])])) rfl ?_
  refine m_J_run hM 1 rfl ⟨trivial, trivial⟩ ?_
  refine m_J_callI false (as := []) (rest := [.ref 22, .int (nI 2), .ref 17]) (m_EX_warm E N xs) hM rfl kw_X8_34 rfl rfl rfl (Nat.le_of_ble_eq_true rfl) (Nat.le_of_ble_eq_true rfl) (Nat.le_of_ble_eq_true rfl) (c_uses rfl (by decide)) (fun v9 h9 tg9 hp9 => ?_)
  obtain ⟨rfl, rfl, hp9⟩ := hp9
  refine ⟨fun _ => ⟨rfl, by rw [hp9.1]; exact Nat.le_refl _⟩, ?_⟩
  have e9 := k_e_uses (by decide) hp9
  clear hp9; subst e9
  refine m_J_S (S2 := (81, [some (.ref 0), some (.int (nI 2))], [.ref 22, .int (nI 2), .ref 17], [.inr (7, [.ref 1, .ref 3, .ref 4, .null, .ref 15, .ref 17, .null, .null, .long 0, .int (nI 0), .int (nI 0), .int (nI 0), .int (nI 0), .int (nI 0)]), k_tp 2 0, k_ba 400 (fun _ => nI 0), k_rd 1 0 (-nI 1), .inr (1, [.ref 5, .ref 7, .ref 8]), k_uses 6, k_la 5 k_u0, k_ia 60 (fun _ => nI 0), k_ra 6 6 (k_arows (k_w0 5)), k_la 60 (k_arow 0), k_la 60 (k_arow 1), k_la 60 (k_arow 2), k_la 60 (k_arow 3), k_la 60 (k_arow 4), k_la 60 (k_arow 5), k_uses 16, k_la 5 k_u0, k_ra 5 6 (va_up (va_up (fun _ => none) 0 (some 18)) 1 (some 20)), k_uses 19, k_la 5 k_u0, k_uses 21, k_la 5 k_u0, k_uses 23, k_la 5 k_u0])) rfl ?_
  refine m_aastN (ci := 6) (ti := 5) (n := 6) hM rfl rfl rfl (Or.inr ⟨rfl, rfl⟩) (by decide) (by decide) ?_
  refine m_J_run hM 2 rfl ⟨trivial, trivial, trivial⟩ ?_
  refine m_J_S (S2 := (63, [some (.ref 0), some (.int (nI 3))], [], [.inr (7, [.ref 1, .ref 3, .ref 4, .null, .ref 15, .ref 17, .null, .null, .long 0, .int (nI 0), .int (nI 0), .int (nI 0), .int (nI 0), .int (nI 0)]), k_tp 2 0, k_ba 400 (fun _ => nI 0), k_rd 1 0 (-nI 1), .inr (1, [.ref 5, .ref 7, .ref 8]), k_uses 6, k_la 5 k_u0, k_ia 60 (fun _ => nI 0), k_ra 6 6 (k_arows (k_w0 5)), k_la 60 (k_arow 0), k_la 60 (k_arow 1), k_la 60 (k_arow 2), k_la 60 (k_arow 3), k_la 60 (k_arow 4), k_la 60 (k_arow 5), k_uses 16, k_la 5 k_u0, k_ra 5 6 (va_up (va_up (va_up (fun _ => none) 0 (some 18)) 1 (some 20)) 2 (some 22)), k_uses 19, k_la 5 k_u0, k_uses 21, k_la 5 k_u0, k_uses 23, k_la 5 k_u0])) rfl ?_
  refine m_J_run hM 3 rfl ⟨trivial, trivial, trivial, trivial⟩ ?_
  refine m_J_if (fun hc => absurd hc (by decide)) (fun _ => ?_)
  refine m_J_run hM 1 rfl ⟨trivial, trivial⟩ ?_
  refine m_J_getf hM rfl rfl (rfl) (rfl) ?_
  refine m_J_run hM 1 rfl ⟨trivial, trivial⟩ ?_
  refine m_newC (ci := 6) (K := 1) (fs := [.null]) hM rfl kn_X8_32 rfl rfl rfl (Nat.le_of_ble_eq_true rfl) (Nat.le_of_ble_eq_true rfl) (Nat.le_of_ble_eq_true rfl) ?_
  refine m_J_S (S2 := (77, [some (.ref 0), some (.int (nI 3))], [.ref 24, .int (nI 3), .ref 17], [.inr (7, [.ref 1, .ref 3, .ref 4, .null, .ref 15, .ref 17, .null, .null, .long 0, .int (nI 0), .int (nI 0), .int (nI 0), .int (nI 0), .int (nI 0)]), k_tp 2 0, k_ba 400 (fun _ => nI 0), k_rd 1 0 (-nI 1), .inr (1, [.ref 5, .ref 7, .ref 8]), k_uses 6, k_la 5 k_u0, k_ia 60 (fun _ => nI 0), k_ra 6 6 (k_arows (k_w0 5)), k_la 60 (k_arow 0), k_la 60 (k_arow 1), k_la 60 (k_arow 2), k_la 60 (k_arow 3), k_la 60 (k_arow 4), k_la 60 (k_arow 5), k_uses 16, k_la 5 k_u0, k_ra 5 6 (va_up (va_up (va_up (fun _ => none) 0 (some 18)) 1 (some 20)) 2 (some 22)), k_uses 19, k_la 5 k_u0, k_uses 21, k_la 5 k_u0, k_uses 23, k_la 5 k_u0, .inr (6, [.null])])) rfl ?_
  refine m_J_run hM 1 rfl ⟨trivial, trivial⟩ ?_
  refine m_J_callI false (as := []) (rest := [.ref 24, .int (nI 3), .ref 17]) (m_EX_warm E N xs) hM rfl kw_X8_34 rfl rfl rfl (Nat.le_of_ble_eq_true rfl) (Nat.le_of_ble_eq_true rfl) (Nat.le_of_ble_eq_true rfl) (c_uses rfl (by decide)) (fun v9 h9 tg9 hp9 => ?_)
  obtain ⟨rfl, rfl, hp9⟩ := hp9
  refine ⟨fun _ => ⟨rfl, by rw [hp9.1]; exact Nat.le_refl _⟩, ?_⟩
  have e9 := k_e_uses (by decide) hp9
  clear hp9; subst e9
  refine m_J_S (S2 := (81, [some (.ref 0), some (.int (nI 3))], [.ref 24, .int (nI 3), .ref 17], [.inr (7, [.ref 1, .ref 3, .ref 4, .null, .ref 15, .ref 17, .null, .null, .long 0, .int (nI 0), .int (nI 0), .int (nI 0), .int (nI 0), .int (nI 0)]), k_tp 2 0, k_ba 400 (fun _ => nI 0), k_rd 1 0 (-nI 1), .inr (1, [.ref 5, .ref 7, .ref 8]), k_uses 6, k_la 5 k_u0, k_ia 60 (fun _ => nI 0), k_ra 6 6 (k_arows (k_w0 5)), k_la 60 (k_arow 0), k_la 60 (k_arow 1), k_la 60 (k_arow 2), k_la 60 (k_arow 3), k_la 60 (k_arow 4), k_la 60 (k_arow 5), k_uses 16, k_la 5 k_u0, k_ra 5 6 (va_up (va_up (va_up (fun _ => none) 0 (some 18)) 1 (some 20)) 2 (some 22)), k_uses 19, k_la 5 k_u0, k_uses 21, k_la 5 k_u0, k_uses 23, k_la 5 k_u0, k_uses 25, k_la 5 k_u0])) rfl ?_
  refine m_aastN (ci := 6) (ti := 5) (n := 6) hM rfl rfl rfl (Or.inr ⟨rfl, rfl⟩) (by decide) (by decide) ?_
  refine m_J_run hM 2 rfl ⟨trivial, trivial, trivial⟩ ?_
  refine m_J_S (S2 := (63, [some (.ref 0), some (.int (nI 4))], [], [.inr (7, [.ref 1, .ref 3, .ref 4, .null, .ref 15, .ref 17, .null, .null, .long 0, .int (nI 0), .int (nI 0), .int (nI 0), .int (nI 0), .int (nI 0)]), k_tp 2 0, k_ba 400 (fun _ => nI 0), k_rd 1 0 (-nI 1), .inr (1, [.ref 5, .ref 7, .ref 8]), k_uses 6, k_la 5 k_u0, k_ia 60 (fun _ => nI 0), k_ra 6 6 (k_arows (k_w0 5)), k_la 60 (k_arow 0), k_la 60 (k_arow 1), k_la 60 (k_arow 2), k_la 60 (k_arow 3), k_la 60 (k_arow 4), k_la 60 (k_arow 5), k_uses 16, k_la 5 k_u0, k_ra 5 6 (va_up (va_up (va_up (va_up (fun _ => none) 0 (some 18)) 1 (some 20)) 2 (some 22)) 3 (some 24)), k_uses 19, k_la 5 k_u0, k_uses 21, k_la 5 k_u0, k_uses 23, k_la 5 k_u0, k_uses 25, k_la 5 k_u0])) rfl ?_
  refine m_J_run hM 3 rfl ⟨trivial, trivial, trivial, trivial⟩ ?_
  refine m_J_if (fun hc => absurd hc (by decide)) (fun _ => ?_)
  refine m_J_run hM 1 rfl ⟨trivial, trivial⟩ ?_
  refine m_J_getf hM rfl rfl (rfl) (rfl) ?_
  refine m_J_run hM 1 rfl ⟨trivial, trivial⟩ ?_
  refine m_newC (ci := 6) (K := 1) (fs := [.null]) hM rfl kn_X8_32 rfl rfl rfl (Nat.le_of_ble_eq_true rfl) (Nat.le_of_ble_eq_true rfl) (Nat.le_of_ble_eq_true rfl) ?_
  refine m_J_S (S2 := (77, [some (.ref 0), some (.int (nI 4))], [.ref 26, .int (nI 4), .ref 17], [.inr (7, [.ref 1, .ref 3, .ref 4, .null, .ref 15, .ref 17, .null, .null, .long 0, .int (nI 0), .int (nI 0), .int (nI 0), .int (nI 0), .int (nI 0)]), k_tp 2 0, k_ba 400 (fun _ => nI 0), k_rd 1 0 (-nI 1), .inr (1, [.ref 5, .ref 7, .ref 8]), k_uses 6, k_la 5 k_u0, k_ia 60 (fun _ => nI 0), k_ra 6 6 (k_arows (k_w0 5)), k_la 60 (k_arow 0), k_la 60 (k_arow 1), k_la 60 (k_arow 2), k_la 60 (k_arow 3), k_la 60 (k_arow 4), k_la 60 (k_arow 5), k_uses 16, k_la 5 k_u0, k_ra 5 6 (va_up (va_up (va_up (va_up (fun _ => none) 0 (some 18)) 1 (some 20)) 2 (some 22)) 3 (some 24)), k_uses 19, k_la 5 k_u0, k_uses 21, k_la 5 k_u0, k_uses 23, k_la 5 k_u0, k_uses 25, k_la 5 k_u0, .inr (6, [.null])])) rfl ?_
  refine m_J_run hM 1 rfl ⟨trivial, trivial⟩ ?_
  refine m_J_callI false (as := []) (rest := [.ref 26, .int (nI 4), .ref 17]) (m_EX_warm E N xs) hM rfl kw_X8_34 rfl rfl rfl (Nat.le_of_ble_eq_true rfl) (Nat.le_of_ble_eq_true rfl) (Nat.le_of_ble_eq_true rfl) (c_uses rfl (by decide)) (fun v9 h9 tg9 hp9 => ?_)
  obtain ⟨rfl, rfl, hp9⟩ := hp9
  refine ⟨fun _ => ⟨rfl, by rw [hp9.1]; exact Nat.le_refl _⟩, ?_⟩
  have e9 := k_e_uses (by decide) hp9
  clear hp9; subst e9
  refine m_J_S (S2 := (81, [some (.ref 0), some (.int (nI 4))], [.ref 26, .int (nI 4), .ref 17], [.inr (7, [.ref 1, .ref 3, .ref 4, .null, .ref 15, .ref 17, .null, .null, .long 0, .int (nI 0), .int (nI 0), .int (nI 0), .int (nI 0), .int (nI 0)]), k_tp 2 0, k_ba 400 (fun _ => nI 0), k_rd 1 0 (-nI 1), .inr (1, [.ref 5, .ref 7, .ref 8]), k_uses 6, k_la 5 k_u0, k_ia 60 (fun _ => nI 0), k_ra 6 6 (k_arows (k_w0 5)), k_la 60 (k_arow 0), k_la 60 (k_arow 1), k_la 60 (k_arow 2), k_la 60 (k_arow 3), k_la 60 (k_arow 4), k_la 60 (k_arow 5), k_uses 16, k_la 5 k_u0, k_ra 5 6 (va_up (va_up (va_up (va_up (fun _ => none) 0 (some 18)) 1 (some 20)) 2 (some 22)) 3 (some 24)), k_uses 19, k_la 5 k_u0, k_uses 21, k_la 5 k_u0, k_uses 23, k_la 5 k_u0, k_uses 25, k_la 5 k_u0, k_uses 27, k_la 5 k_u0])) rfl ?_
  refine m_aastN (ci := 6) (ti := 5) (n := 6) hM rfl rfl rfl (Or.inr ⟨rfl, rfl⟩) (by decide) (by decide) ?_
  refine m_J_run hM 2 rfl ⟨trivial, trivial, trivial⟩ ?_
  refine m_J_S (S2 := (63, [some (.ref 0), some (.int (nI 5))], [], [.inr (7, [.ref 1, .ref 3, .ref 4, .null, .ref 15, .ref 17, .null, .null, .long 0, .int (nI 0), .int (nI 0), .int (nI 0), .int (nI 0), .int (nI 0)]), k_tp 2 0, k_ba 400 (fun _ => nI 0), k_rd 1 0 (-nI 1), .inr (1, [.ref 5, .ref 7, .ref 8]), k_uses 6, k_la 5 k_u0, k_ia 60 (fun _ => nI 0), k_ra 6 6 (k_arows (k_w0 5)), k_la 60 (k_arow 0), k_la 60 (k_arow 1), k_la 60 (k_arow 2), k_la 60 (k_arow 3), k_la 60 (k_arow 4), k_la 60 (k_arow 5), k_uses 16, k_la 5 k_u0, k_ra 5 6 (va_up (va_up (va_up (va_up (va_up (fun _ => none) 0 (some 18)) 1 (some 20)) 2 (some 22)) 3 (some 24)) 4 (some 26)), k_uses 19, k_la 5 k_u0, k_uses 21, k_la 5 k_u0, k_uses 23, k_la 5 k_u0, k_uses 25, k_la 5 k_u0, k_uses 27, k_la 5 k_u0])) rfl ?_
  refine m_J_run hM 3 rfl ⟨trivial, trivial, trivial, trivial⟩ ?_
  refine m_J_if (fun hc => absurd hc (by decide)) (fun _ => ?_)
  refine m_J_run hM 1 rfl ⟨trivial, trivial⟩ ?_
  refine m_J_getf hM rfl rfl (rfl) (rfl) ?_
  refine m_J_run hM 1 rfl ⟨trivial, trivial⟩ ?_
  refine m_newC (ci := 6) (K := 1) (fs := [.null]) hM rfl kn_X8_32 rfl rfl rfl (Nat.le_of_ble_eq_true rfl) (Nat.le_of_ble_eq_true rfl) (Nat.le_of_ble_eq_true rfl) ?_
  refine m_J_S (S2 := (77, [some (.ref 0), some (.int (nI 5))], [.ref 28, .int (nI 5), .ref 17], [.inr (7, [.ref 1, .ref 3, .ref 4, .null, .ref 15, .ref 17, .null, .null, .long 0, .int (nI 0), .int (nI 0), .int (nI 0), .int (nI 0), .int (nI 0)]), k_tp 2 0, k_ba 400 (fun _ => nI 0), k_rd 1 0 (-nI 1), .inr (1, [.ref 5, .ref 7, .ref 8]), k_uses 6, k_la 5 k_u0, k_ia 60 (fun _ => nI 0), k_ra 6 6 (k_arows (k_w0 5)), k_la 60 (k_arow 0), k_la 60 (k_arow 1), k_la 60 (k_arow 2), k_la 60 (k_arow 3), k_la 60 (k_arow 4), k_la 60 (k_arow 5), k_uses 16, k_la 5 k_u0, k_ra 5 6 (va_up (va_up (va_up (va_up (va_up (fun _ => none) 0 (some 18)) 1 (some 20)) 2 (some 22)) 3 (some 24)) 4 (some 26)), k_uses 19, k_la 5 k_u0, k_uses 21, k_la 5 k_u0, k_uses 23, k_la 5 k_u0, k_uses 25, k_la 5 k_u0, k_uses 27, k_la 5 k_u0, .inr (6, [.null])])) rfl ?_
  refine m_J_run hM 1 rfl ⟨trivial, trivial⟩ ?_
  refine m_J_callI false (as := []) (rest := [.ref 28, .int (nI 5), .ref 17]) (m_EX_warm E N xs) hM rfl kw_X8_34 rfl rfl rfl (Nat.le_of_ble_eq_true rfl) (Nat.le_of_ble_eq_true rfl) (Nat.le_of_ble_eq_true rfl) (c_uses rfl (by decide)) (fun v9 h9 tg9 hp9 => ?_)
  obtain ⟨rfl, rfl, hp9⟩ := hp9
  refine ⟨fun _ => ⟨rfl, by rw [hp9.1]; exact Nat.le_refl _⟩, ?_⟩
  have e9 := k_e_uses (by decide) hp9
  clear hp9; subst e9
  refine m_J_S (S2 := (81, [some (.ref 0), some (.int (nI 5))], [.ref 28, .int (nI 5), .ref 17], [.inr (7, [.ref 1, .ref 3, .ref 4, .null, .ref 15, .ref 17, .null, .null, .long 0, .int (nI 0), .int (nI 0), .int (nI 0), .int (nI 0), .int (nI 0)]), k_tp 2 0, k_ba 400 (fun _ => nI 0), k_rd 1 0 (-nI 1), .inr (1, [.ref 5, .ref 7, .ref 8]), k_uses 6, k_la 5 k_u0, k_ia 60 (fun _ => nI 0), k_ra 6 6 (k_arows (k_w0 5)), k_la 60 (k_arow 0), k_la 60 (k_arow 1), k_la 60 (k_arow 2), k_la 60 (k_arow 3), k_la 60 (k_arow 4), k_la 60 (k_arow 5), k_uses 16, k_la 5 k_u0, k_ra 5 6 (va_up (va_up (va_up (va_up (va_up (fun _ => none) 0 (some 18)) 1 (some 20)) 2 (some 22)) 3 (some 24)) 4 (some 26)), k_uses 19, k_la 5 k_u0, k_uses 21, k_la 5 k_u0, k_uses 23, k_la 5 k_u0, k_uses 25, k_la 5 k_u0, k_uses 27, k_la 5 k_u0, k_uses 29, k_la 5 k_u0])) rfl ?_
  refine m_aastN (ci := 6) (ti := 5) (n := 6) hM rfl rfl rfl (Or.inr ⟨rfl, rfl⟩) (by decide) (by decide) ?_
  refine m_J_run hM 2 rfl ⟨trivial, trivial, trivial⟩ ?_
  refine m_J_S (S2 := (63, [some (.ref 0), some (.int (nI 6))], [], [.inr (7, [.ref 1, .ref 3, .ref 4, .null, .ref 15, .ref 17, .null, .null, .long 0, .int (nI 0), .int (nI 0), .int (nI 0), .int (nI 0), .int (nI 0)]), k_tp 2 0, k_ba 400 (fun _ => nI 0), k_rd 1 0 (-nI 1), .inr (1, [.ref 5, .ref 7, .ref 8]), k_uses 6, k_la 5 k_u0, k_ia 60 (fun _ => nI 0), k_ra 6 6 (k_arows (k_w0 5)), k_la 60 (k_arow 0), k_la 60 (k_arow 1), k_la 60 (k_arow 2), k_la 60 (k_arow 3), k_la 60 (k_arow 4), k_la 60 (k_arow 5), k_uses 16, k_la 5 k_u0, k_ra 5 6 (va_up (va_up (va_up (va_up (va_up (va_up (fun _ => none) 0 (some 18)) 1 (some 20)) 2 (some 22)) 3 (some 24)) 4 (some 26)) 5 (some 28)), k_uses 19, k_la 5 k_u0, k_uses 21, k_la 5 k_u0, k_uses 23, k_la 5 k_u0, k_uses 25, k_la 5 k_u0, k_uses 27, k_la 5 k_u0, k_uses 29, k_la 5 k_u0])) rfl ?_
  refine m_J_run hM 3 rfl ⟨trivial, trivial, trivial, trivial⟩ ?_
  refine m_J_if (fun _ => ?_) (fun hc => absurd (by decide) hc)
  refine m_J_run hM 1 rfl ⟨trivial, trivial⟩ ?_
  refine m_newC (ci := 0) (K := 2) (fs := [.null, .int (nI 0)]) hM rfl kn_X8_43 rfl rfl rfl (Nat.le_of_ble_eq_true rfl) (Nat.le_of_ble_eq_true rfl) (Nat.le_of_ble_eq_true rfl) ?_
  refine m_J_S (S2 := (92, [some (.ref 0), some (.int (nI 6))], [.ref 30, .ref 0], [.inr (7, [.ref 1, .ref 3, .ref 4, .null, .ref 15, .ref 17, .null, .null, .long 0, .int (nI 0), .int (nI 0), .int (nI 0), .int (nI 0), .int (nI 0)]), k_tp 2 0, k_ba 400 (fun _ => nI 0), k_rd 1 0 (-nI 1), .inr (1, [.ref 5, .ref 7, .ref 8]), k_uses 6, k_la 5 k_u0, k_ia 60 (fun _ => nI 0), k_ra 6 6 (k_arows (k_w0 5)), k_la 60 (k_arow 0), k_la 60 (k_arow 1), k_la 60 (k_arow 2), k_la 60 (k_arow 3), k_la 60 (k_arow 4), k_la 60 (k_arow 5), k_uses 16, k_la 5 k_u0, k_ra 5 6 (va_up (va_up (va_up (va_up (va_up (va_up (fun _ => none) 0 (some 18)) 1 (some 20)) 2 (some 22)) 3 (some 24)) 4 (some 26)) 5 (some 28)), k_uses 19, k_la 5 k_u0, k_uses 21, k_la 5 k_u0, k_uses 23, k_la 5 k_u0, k_uses 25, k_la 5 k_u0, k_uses 27, k_la 5 k_u0, k_uses 29, k_la 5 k_u0, .inr (0, [.null, .int (nI 0)])])) rfl ?_
  refine m_J_run hM 1 rfl ⟨trivial, trivial⟩ ?_
  refine m_J_callI false (as := []) (rest := [.ref 30, .ref 0]) (m_EX_warm E N xs) hM rfl kw_X8_45 rfl rfl rfl (Nat.le_of_ble_eq_true rfl) (Nat.le_of_ble_eq_true rfl) (Nat.le_of_ble_eq_true rfl) (c_book rfl (by decide)) (fun v9 h9 tg9 hp9 => ?_)
  obtain ⟨rfl, rfl, hp9⟩ := hp9
  refine ⟨fun _ => ⟨rfl, by rw [hp9.1]; exact Nat.le_refl _⟩, ?_⟩
  have e9 := k_e_book (by decide) hp9
  clear hp9; subst e9
  refine m_J_S (S2 := (96, [some (.ref 0), some (.int (nI 6))], [.ref 30, .ref 0], [.inr (7, [.ref 1, .ref 3, .ref 4, .null, .ref 15, .ref 17, .null, .null, .long 0, .int (nI 0), .int (nI 0), .int (nI 0), .int (nI 0), .int (nI 0)]), k_tp 2 0, k_ba 400 (fun _ => nI 0), k_rd 1 0 (-nI 1), .inr (1, [.ref 5, .ref 7, .ref 8]), k_uses 6, k_la 5 k_u0, k_ia 60 (fun _ => nI 0), k_ra 6 6 (k_arows (k_w0 5)), k_la 60 (k_arow 0), k_la 60 (k_arow 1), k_la 60 (k_arow 2), k_la 60 (k_arow 3), k_la 60 (k_arow 4), k_la 60 (k_arow 5), k_uses 16, k_la 5 k_u0, k_ra 5 6 (va_up (va_up (va_up (va_up (va_up (va_up (fun _ => none) 0 (some 18)) 1 (some 20)) 2 (some 22)) 3 (some 24)) 4 (some 26)) 5 (some 28)), k_uses 19, k_la 5 k_u0, k_uses 21, k_la 5 k_u0, k_uses 23, k_la 5 k_u0, k_uses 25, k_la 5 k_u0, k_uses 27, k_la 5 k_u0, k_uses 29, k_la 5 k_u0, .inr (0, [.ref 31, .int (nI 0)]), k_ra 4 14 (k_rws (fun i => 31 + 1 + i)), k_ln k_q0, k_ln k_q0, k_ln k_q0, k_ln k_q0, k_ln k_q0, k_ln k_q0, k_ln k_q0, k_ln k_q0, k_ln k_q0, k_ln k_q0, k_ln k_q0, k_ln k_q0, k_ln k_q0, k_ln k_q0])) rfl ?_
  refine m_J_putc hM rfl rfl (rfl) (rfl) (by decide) ?_
  refine m_J_S (S2 := (99, [some (.ref 0), some (.int (nI 6))], [], [.inr (7, [.ref 1, .ref 3, .ref 4, .null, .ref 15, .ref 17, .ref 30, .null, .long 0, .int (nI 0), .int (nI 0), .int (nI 0), .int (nI 0), .int (nI 0)]), k_tp 2 0, k_ba 400 (fun _ => nI 0), k_rd 1 0 (-nI 1), .inr (1, [.ref 5, .ref 7, .ref 8]), k_uses 6, k_la 5 k_u0, k_ia 60 (fun _ => nI 0), k_ra 6 6 (k_arows (k_w0 5)), k_la 60 (k_arow 0), k_la 60 (k_arow 1), k_la 60 (k_arow 2), k_la 60 (k_arow 3), k_la 60 (k_arow 4), k_la 60 (k_arow 5), k_uses 16, k_la 5 k_u0, k_ra 5 6 (va_up (va_up (va_up (va_up (va_up (va_up (fun _ => none) 0 (some 18)) 1 (some 20)) 2 (some 22)) 3 (some 24)) 4 (some 26)) 5 (some 28)), k_uses 19, k_la 5 k_u0, k_uses 21, k_la 5 k_u0, k_uses 23, k_la 5 k_u0, k_uses 25, k_la 5 k_u0, k_uses 27, k_la 5 k_u0, k_uses 29, k_la 5 k_u0, .inr (0, [.ref 31, .int (nI 0)]), k_ra 4 14 (k_rws (fun i => 31 + 1 + i)), k_ln k_q0, k_ln k_q0, k_ln k_q0, k_ln k_q0, k_ln k_q0, k_ln k_q0, k_ln k_q0, k_ln k_q0, k_ln k_q0, k_ln k_q0, k_ln k_q0, k_ln k_q0, k_ln k_q0, k_ln k_q0])) rfl ?_
  refine m_J_run hM 1 rfl ⟨trivial, trivial⟩ ?_
  refine m_newC (ci := 0) (K := 2) (fs := [.null, .int (nI 0)]) hM rfl kn_X8_43 rfl rfl rfl (Nat.le_of_ble_eq_true rfl) (Nat.le_of_ble_eq_true rfl) (Nat.le_of_ble_eq_true rfl) ?_
  refine m_J_S (S2 := (103, [some (.ref 0), some (.int (nI 6))], [.ref 46, .ref 0], [.inr (7, [.ref 1, .ref 3, .ref 4, .null, .ref 15, .ref 17, .ref 30, .null, .long 0, .int (nI 0), .int (nI 0), .int (nI 0), .int (nI 0), .int (nI 0)]), k_tp 2 0, k_ba 400 (fun _ => nI 0), k_rd 1 0 (-nI 1), .inr (1, [.ref 5, .ref 7, .ref 8]), k_uses 6, k_la 5 k_u0, k_ia 60 (fun _ => nI 0), k_ra 6 6 (k_arows (k_w0 5)), k_la 60 (k_arow 0), k_la 60 (k_arow 1), k_la 60 (k_arow 2), k_la 60 (k_arow 3), k_la 60 (k_arow 4), k_la 60 (k_arow 5), k_uses 16, k_la 5 k_u0, k_ra 5 6 (va_up (va_up (va_up (va_up (va_up (va_up (fun _ => none) 0 (some 18)) 1 (some 20)) 2 (some 22)) 3 (some 24)) 4 (some 26)) 5 (some 28)), k_uses 19, k_la 5 k_u0, k_uses 21, k_la 5 k_u0, k_uses 23, k_la 5 k_u0, k_uses 25, k_la 5 k_u0, k_uses 27, k_la 5 k_u0, k_uses 29, k_la 5 k_u0, .inr (0, [.ref 31, .int (nI 0)]), k_ra 4 14 (k_rws (fun i => 31 + 1 + i)), k_ln k_q0, k_ln k_q0, k_ln k_q0, k_ln k_q0, k_ln k_q0, k_ln k_q0, k_ln k_q0, k_ln k_q0, k_ln k_q0, k_ln k_q0, k_ln k_q0, k_ln k_q0, k_ln k_q0, k_ln k_q0, .inr (0, [.null, .int (nI 0)])])) rfl ?_
  refine m_J_run hM 1 rfl ⟨trivial, trivial⟩ ?_
  refine m_J_callI false (as := []) (rest := [.ref 46, .ref 0]) (m_EX_warm E N xs) hM rfl kw_X8_45 rfl rfl rfl (Nat.le_of_ble_eq_true rfl) (Nat.le_of_ble_eq_true rfl) (Nat.le_of_ble_eq_true rfl) (c_book rfl (by decide)) (fun v9 h9 tg9 hp9 => ?_)
  obtain ⟨rfl, rfl, hp9⟩ := hp9
  refine ⟨fun _ => ⟨rfl, by rw [hp9.1]; exact Nat.le_refl _⟩, ?_⟩
  have e9 := k_e_book (by decide) hp9
  clear hp9; subst e9
  refine m_J_S (S2 := (107, [some (.ref 0), some (.int (nI 6))], [.ref 46, .ref 0], [.inr (7, [.ref 1, .ref 3, .ref 4, .null, .ref 15, .ref 17, .ref 30, .null, .long 0, .int (nI 0), .int (nI 0), .int (nI 0), .int (nI 0), .int (nI 0)]), k_tp 2 0, k_ba 400 (fun _ => nI 0), k_rd 1 0 (-nI 1), .inr (1, [.ref 5, .ref 7, .ref 8]), k_uses 6, k_la 5 k_u0, k_ia 60 (fun _ => nI 0), k_ra 6 6 (k_arows (k_w0 5)), k_la 60 (k_arow 0), k_la 60 (k_arow 1), k_la 60 (k_arow 2), k_la 60 (k_arow 3), k_la 60 (k_arow 4), k_la 60 (k_arow 5), k_uses 16, k_la 5 k_u0, k_ra 5 6 (va_up (va_up (va_up (va_up (va_up (va_up (fun _ => none) 0 (some 18)) 1 (some 20)) 2 (some 22)) 3 (some 24)) 4 (some 26)) 5 (some 28)), k_uses 19, k_la 5 k_u0, k_uses 21, k_la 5 k_u0, k_uses 23, k_la 5 k_u0, k_uses 25, k_la 5 k_u0, k_uses 27, k_la 5 k_u0, k_uses 29, k_la 5 k_u0, .inr (0, [.ref 31, .int (nI 0)]), k_ra 4 14 (k_rws (fun i => 31 + 1 + i)), k_ln k_q0, k_ln k_q0, k_ln k_q0, k_ln k_q0, k_ln k_q0, k_ln k_q0, k_ln k_q0, k_ln k_q0, k_ln k_q0, k_ln k_q0, k_ln k_q0, k_ln k_q0, k_ln k_q0, k_ln k_q0, .inr (0, [.ref 47, .int (nI 0)]), k_ra 4 14 (k_rws (fun i => 47 + 1 + i)), k_ln k_q0, k_ln k_q0, k_ln k_q0, k_ln k_q0, k_ln k_q0, k_ln k_q0, k_ln k_q0, k_ln k_q0, k_ln k_q0, k_ln k_q0, k_ln k_q0, k_ln k_q0, k_ln k_q0, k_ln k_q0])) rfl ?_
  refine m_J_putc hM rfl rfl (rfl) (rfl) (by decide) ?_
  refine m_J_S (S2 := (110, [some (.ref 0), some (.int (nI 6))], [], [.inr (7, [.ref 1, .ref 3, .ref 4, .null, .ref 15, .ref 17, .ref 30, .ref 46, .long 0, .int (nI 0), .int (nI 0), .int (nI 0), .int (nI 0), .int (nI 0)]), k_tp 2 0, k_ba 400 (fun _ => nI 0), k_rd 1 0 (-nI 1), .inr (1, [.ref 5, .ref 7, .ref 8]), k_uses 6, k_la 5 k_u0, k_ia 60 (fun _ => nI 0), k_ra 6 6 (k_arows (k_w0 5)), k_la 60 (k_arow 0), k_la 60 (k_arow 1), k_la 60 (k_arow 2), k_la 60 (k_arow 3), k_la 60 (k_arow 4), k_la 60 (k_arow 5), k_uses 16, k_la 5 k_u0, k_ra 5 6 (va_up (va_up (va_up (va_up (va_up (va_up (fun _ => none) 0 (some 18)) 1 (some 20)) 2 (some 22)) 3 (some 24)) 4 (some 26)) 5 (some 28)), k_uses 19, k_la 5 k_u0, k_uses 21, k_la 5 k_u0, k_uses 23, k_la 5 k_u0, k_uses 25, k_la 5 k_u0, k_uses 27, k_la 5 k_u0, k_uses 29, k_la 5 k_u0, .inr (0, [.ref 31, .int (nI 0)]), k_ra 4 14 (k_rws (fun i => 31 + 1 + i)), k_ln k_q0, k_ln k_q0, k_ln k_q0, k_ln k_q0, k_ln k_q0, k_ln k_q0, k_ln k_q0, k_ln k_q0, k_ln k_q0, k_ln k_q0, k_ln k_q0, k_ln k_q0, k_ln k_q0, k_ln k_q0, .inr (0, [.ref 47, .int (nI 0)]), k_ra 4 14 (k_rws (fun i => 47 + 1 + i)), k_ln k_q0, k_ln k_q0, k_ln k_q0, k_ln k_q0, k_ln k_q0, k_ln k_q0, k_ln k_q0, k_ln k_q0, k_ln k_q0, k_ln k_q0, k_ln k_q0, k_ln k_q0, k_ln k_q0, k_ln k_q0])) rfl ?_
  refine m_J_run hM 1 rfl ⟨trivial, trivial⟩ ?_
  refine m_newC (ci := 4) (K := 8) (fs := [.null, .null, .null, .null, .null, .int (nI 0), .int (nI 0), .int (nI 0)]) hM rfl kn_X8_53 rfl rfl rfl (Nat.le_of_ble_eq_true rfl) (Nat.le_of_ble_eq_true rfl) (Nat.le_of_ble_eq_true rfl) ?_
  refine m_J_S (S2 := (114, [some (.ref 0), some (.int (nI 6))], [.ref 62, .ref 0], [.inr (7, [.ref 1, .ref 3, .ref 4, .null, .ref 15, .ref 17, .ref 30, .ref 46, .long 0, .int (nI 0), .int (nI 0), .int (nI 0), .int (nI 0), .int (nI 0)]), k_tp 2 0, k_ba 400 (fun _ => nI 0), k_rd 1 0 (-nI 1), .inr (1, [.ref 5, .ref 7, .ref 8]), k_uses 6, k_la 5 k_u0, k_ia 60 (fun _ => nI 0), k_ra 6 6 (k_arows (k_w0 5)), k_la 60 (k_arow 0), k_la 60 (k_arow 1), k_la 60 (k_arow 2), k_la 60 (k_arow 3), k_la 60 (k_arow 4), k_la 60 (k_arow 5), k_uses 16, k_la 5 k_u0, k_ra 5 6 (va_up (va_up (va_up (va_up (va_up (va_up (fun _ => none) 0 (some 18)) 1 (some 20)) 2 (some 22)) 3 (some 24)) 4 (some 26)) 5 (some 28)), k_uses 19, k_la 5 k_u0, k_uses 21, k_la 5 k_u0, k_uses 23, k_la 5 k_u0, k_uses 25, k_la 5 k_u0, k_uses 27, k_la 5 k_u0, k_uses 29, k_la 5 k_u0, .inr (0, [.ref 31, .int (nI 0)]), k_ra 4 14 (k_rws (fun i => 31 + 1 + i)), k_ln k_q0, k_ln k_q0, k_ln k_q0, k_ln k_q0, k_ln k_q0, k_ln k_q0, k_ln k_q0, k_ln k_q0, k_ln k_q0, k_ln k_q0, k_ln k_q0, k_ln k_q0, k_ln k_q0, k_ln k_q0, .inr (0, [.ref 47, .int (nI 0)]), k_ra 4 14 (k_rws (fun i => 47 + 1 + i)), k_ln k_q0, k_ln k_q0, k_ln k_q0, k_ln k_q0, k_ln k_q0, k_ln k_q0, k_ln k_q0, k_ln k_q0, k_ln k_q0, k_ln k_q0, k_ln k_q0, k_ln k_q0, k_ln k_q0, k_ln k_q0, .inr (4, [.null, .null, .null, .null, .null, .int (nI 0), .int (nI 0), .int (nI 0)])])) rfl ?_
  refine m_J_run hM 2 rfl ⟨trivial, trivial, trivial⟩ ?_
  refine m_J_getf hM rfl rfl (rfl) (rfl) ?_
  refine m_J_run hM 1 rfl ⟨trivial, trivial⟩ ?_
  refine m_J_getf hM rfl rfl (rfl) (rfl) ?_
  refine m_callI false (as := [.ref 4, .ref 30]) (rest := [.ref 62, .ref 0]) (m_EX_warm E N xs) hM rfl kw_X8_55 rfl rfl (c_search rfl rfl (by decide)) rfl (Nat.le_of_ble_eq_true rfl) (Nat.le_of_ble_eq_true rfl) (Nat.le_of_ble_eq_true rfl) (fun _ => ⟨rfl, by decide⟩) ?_
  refine m_J_S (S2 := (126, [some (.ref 0), some (.int (nI 6))], [.ref 62, .ref 0], [.inr (7, [.ref 1, .ref 3, .ref 4, .null, .ref 15, .ref 17, .ref 30, .ref 46, .long 0, .int (nI 0), .int (nI 0), .int (nI 0), .int (nI 0), .int (nI 0)]), k_tp 2 0, k_ba 400 (fun _ => nI 0), k_rd 1 0 (-nI 1), .inr (1, [.ref 5, .ref 7, .ref 8]), k_uses 6, k_la 5 k_u0, k_ia 60 (fun _ => nI 0), k_ra 6 6 (k_arows (k_w0 5)), k_la 60 (k_arow 0), k_la 60 (k_arow 1), k_la 60 (k_arow 2), k_la 60 (k_arow 3), k_la 60 (k_arow 4), k_la 60 (k_arow 5), k_uses 16, k_la 5 k_u0, k_ra 5 6 (va_up (va_up (va_up (va_up (va_up (va_up (fun _ => none) 0 (some 18)) 1 (some 20)) 2 (some 22)) 3 (some 24)) 4 (some 26)) 5 (some 28)), k_uses 19, k_la 5 k_u0, k_uses 21, k_la 5 k_u0, k_uses 23, k_la 5 k_u0, k_uses 25, k_la 5 k_u0, k_uses 27, k_la 5 k_u0, k_uses 29, k_la 5 k_u0, .inr (0, [.ref 31, .int (nI 0)]), k_ra 4 14 (k_rws (fun i => 31 + 1 + i)), k_ln k_q0, k_ln k_q0, k_ln k_q0, k_ln k_q0, k_ln k_q0, k_ln k_q0, k_ln k_q0, k_ln k_q0, k_ln k_q0, k_ln k_q0, k_ln k_q0, k_ln k_q0, k_ln k_q0, k_ln k_q0, .inr (0, [.ref 47, .int (nI 0)]), k_ra 4 14 (k_rws (fun i => 47 + 1 + i)), k_ln k_q0, k_ln k_q0, k_ln k_q0, k_ln k_q0, k_ln k_q0, k_ln k_q0, k_ln k_q0, k_ln k_q0, k_ln k_q0, k_ln k_q0, k_ln k_q0, k_ln k_q0, k_ln k_q0, k_ln k_q0, k_so 63 66 67 69 30 0 false (nI 0), .inr (1, [.ref 64, .ref 7, .ref 8]), k_uses 65, k_la 5 k_u0, k_ia 5 (fun _ => nI 0), k_uses 68, k_la 5 k_u0, k_ia 14 (fun _ => nI 0)])) rfl ?_
  refine m_J_putc hM rfl rfl (rfl) (rfl) (by decide) ?_
  refine m_J_S (S2 := (129, [some (.ref 0), some (.int (nI 6))], [], [.inr (7, [.ref 1, .ref 3, .ref 4, .ref 62, .ref 15, .ref 17, .ref 30, .ref 46, .long 0, .int (nI 0), .int (nI 0), .int (nI 0), .int (nI 0), .int (nI 0)]), k_tp 2 0, k_ba 400 (fun _ => nI 0), k_rd 1 0 (-nI 1), .inr (1, [.ref 5, .ref 7, .ref 8]), k_uses 6, k_la 5 k_u0, k_ia 60 (fun _ => nI 0), k_ra 6 6 (k_arows (k_w0 5)), k_la 60 (k_arow 0), k_la 60 (k_arow 1), k_la 60 (k_arow 2), k_la 60 (k_arow 3), k_la 60 (k_arow 4), k_la 60 (k_arow 5), k_uses 16, k_la 5 k_u0, k_ra 5 6 (va_up (va_up (va_up (va_up (va_up (va_up (fun _ => none) 0 (some 18)) 1 (some 20)) 2 (some 22)) 3 (some 24)) 4 (some 26)) 5 (some 28)), k_uses 19, k_la 5 k_u0, k_uses 21, k_la 5 k_u0, k_uses 23, k_la 5 k_u0, k_uses 25, k_la 5 k_u0, k_uses 27, k_la 5 k_u0, k_uses 29, k_la 5 k_u0, .inr (0, [.ref 31, .int (nI 0)]), k_ra 4 14 (k_rws (fun i => 31 + 1 + i)), k_ln k_q0, k_ln k_q0, k_ln k_q0, k_ln k_q0, k_ln k_q0, k_ln k_q0, k_ln k_q0, k_ln k_q0, k_ln k_q0, k_ln k_q0, k_ln k_q0, k_ln k_q0, k_ln k_q0, k_ln k_q0, .inr (0, [.ref 47, .int (nI 0)]), k_ra 4 14 (k_rws (fun i => 47 + 1 + i)), k_ln k_q0, k_ln k_q0, k_ln k_q0, k_ln k_q0, k_ln k_q0, k_ln k_q0, k_ln k_q0, k_ln k_q0, k_ln k_q0, k_ln k_q0, k_ln k_q0, k_ln k_q0, k_ln k_q0, k_ln k_q0, k_so 63 66 67 69 30 0 false (nI 0), .inr (1, [.ref 64, .ref 7, .ref 8]), k_uses 65, k_la 5 k_u0, k_ia 5 (fun _ => nI 0), k_uses 68, k_la 5 k_u0, k_ia 14 (fun _ => nI 0)])) rfl ?_
  refine m_J_run hM 2 rfl ⟨trivial, trivial, trivial⟩ ?_
  refine m_J_putc hM rfl rfl (rfl) (rfl) (by decide) ?_
  refine m_J_S (S2 := (134, [some (.ref 0), some (.int (nI 6))], [], [.inr (7, [.ref 1, .ref 3, .ref 4, .ref 62, .ref 15, .ref 17, .ref 30, .ref 46, .long 0, .int (nI 0), .int (nI 0), .int (nI 0), .int (nI 0), .int (nI 0)]), k_tp 2 0, k_ba 400 (fun _ => nI 0), k_rd 1 0 (-nI 1), .inr (1, [.ref 5, .ref 7, .ref 8]), k_uses 6, k_la 5 k_u0, k_ia 60 (fun _ => nI 0), k_ra 6 6 (k_arows (k_w0 5)), k_la 60 (k_arow 0), k_la 60 (k_arow 1), k_la 60 (k_arow 2), k_la 60 (k_arow 3), k_la 60 (k_arow 4), k_la 60 (k_arow 5), k_uses 16, k_la 5 k_u0, k_ra 5 6 (va_up (va_up (va_up (va_up (va_up (va_up (fun _ => none) 0 (some 18)) 1 (some 20)) 2 (some 22)) 3 (some 24)) 4 (some 26)) 5 (some 28)), k_uses 19, k_la 5 k_u0, k_uses 21, k_la 5 k_u0, k_uses 23, k_la 5 k_u0, k_uses 25, k_la 5 k_u0, k_uses 27, k_la 5 k_u0, k_uses 29, k_la 5 k_u0, .inr (0, [.ref 31, .int (nI 0)]), k_ra 4 14 (k_rws (fun i => 31 + 1 + i)), k_ln k_q0, k_ln k_q0, k_ln k_q0, k_ln k_q0, k_ln k_q0, k_ln k_q0, k_ln k_q0, k_ln k_q0, k_ln k_q0, k_ln k_q0, k_ln k_q0, k_ln k_q0, k_ln k_q0, k_ln k_q0, .inr (0, [.ref 47, .int (nI 0)]), k_ra 4 14 (k_rws (fun i => 47 + 1 + i)), k_ln k_q0, k_ln k_q0, k_ln k_q0, k_ln k_q0, k_ln k_q0, k_ln k_q0, k_ln k_q0, k_ln k_q0, k_ln k_q0, k_ln k_q0, k_ln k_q0, k_ln k_q0, k_ln k_q0, k_ln k_q0, k_so 63 66 67 69 30 0 false (nI 0), .inr (1, [.ref 64, .ref 7, .ref 8]), k_uses 65, k_la 5 k_u0, k_ia 5 (fun _ => nI 0), k_uses 68, k_la 5 k_u0, k_ia 14 (fun _ => nI 0)])) rfl ?_
  refine m_J_run hM 2 rfl ⟨trivial, trivial, trivial⟩ ?_
  refine m_J_putc hM rfl rfl (rfl) (rfl) (by decide) ?_
  refine m_J_S (S2 := (139, [some (.ref 0), some (.int (nI 6))], [], [.inr (7, [.ref 1, .ref 3, .ref 4, .ref 62, .ref 15, .ref 17, .ref 30, .ref 46, .long 0, .int (nI 0), .int (nI 0), .int (nI 0), .int (nI 0), .int (nI 0)]), k_tp 2 0, k_ba 400 (fun _ => nI 0), k_rd 1 0 (-nI 1), .inr (1, [.ref 5, .ref 7, .ref 8]), k_uses 6, k_la 5 k_u0, k_ia 60 (fun _ => nI 0), k_ra 6 6 (k_arows (k_w0 5)), k_la 60 (k_arow 0), k_la 60 (k_arow 1), k_la 60 (k_arow 2), k_la 60 (k_arow 3), k_la 60 (k_arow 4), k_la 60 (k_arow 5), k_uses 16, k_la 5 k_u0, k_ra 5 6 (va_up (va_up (va_up (va_up (va_up (va_up (fun _ => none) 0 (some 18)) 1 (some 20)) 2 (some 22)) 3 (some 24)) 4 (some 26)) 5 (some 28)), k_uses 19, k_la 5 k_u0, k_uses 21, k_la 5 k_u0, k_uses 23, k_la 5 k_u0, k_uses 25, k_la 5 k_u0, k_uses 27, k_la 5 k_u0, k_uses 29, k_la 5 k_u0, .inr (0, [.ref 31, .int (nI 0)]), k_ra 4 14 (k_rws (fun i => 31 + 1 + i)), k_ln k_q0, k_ln k_q0, k_ln k_q0, k_ln k_q0, k_ln k_q0, k_ln k_q0, k_ln k_q0, k_ln k_q0, k_ln k_q0, k_ln k_q0, k_ln k_q0, k_ln k_q0, k_ln k_q0, k_ln k_q0, .inr (0, [.ref 47, .int (nI 0)]), k_ra 4 14 (k_rws (fun i => 47 + 1 + i)), k_ln k_q0, k_ln k_q0, k_ln k_q0, k_ln k_q0, k_ln k_q0, k_ln k_q0, k_ln k_q0, k_ln k_q0, k_ln k_q0, k_ln k_q0, k_ln k_q0, k_ln k_q0, k_ln k_q0, k_ln k_q0, k_so 63 66 67 69 30 0 false (nI 0), .inr (1, [.ref 64, .ref 7, .ref 8]), k_uses 65, k_la 5 k_u0, k_ia 5 (fun _ => nI 0), k_uses 68, k_la 5 k_u0, k_ia 14 (fun _ => nI 0)])) rfl ?_
  refine m_J_run hM 2 rfl ⟨trivial, trivial, trivial⟩ ?_
  refine m_J_putc hM rfl rfl (rfl) (rfl) (by decide) ?_
  refine m_J_S (S2 := (144, [some (.ref 0), some (.int (nI 6))], [], [.inr (7, [.ref 1, .ref 3, .ref 4, .ref 62, .ref 15, .ref 17, .ref 30, .ref 46, .long 0, .int (nI 0), .int (nI 0), .int (nI 0), .int (nI 0), .int (nI 0)]), k_tp 2 0, k_ba 400 (fun _ => nI 0), k_rd 1 0 (-nI 1), .inr (1, [.ref 5, .ref 7, .ref 8]), k_uses 6, k_la 5 k_u0, k_ia 60 (fun _ => nI 0), k_ra 6 6 (k_arows (k_w0 5)), k_la 60 (k_arow 0), k_la 60 (k_arow 1), k_la 60 (k_arow 2), k_la 60 (k_arow 3), k_la 60 (k_arow 4), k_la 60 (k_arow 5), k_uses 16, k_la 5 k_u0, k_ra 5 6 (va_up (va_up (va_up (va_up (va_up (va_up (fun _ => none) 0 (some 18)) 1 (some 20)) 2 (some 22)) 3 (some 24)) 4 (some 26)) 5 (some 28)), k_uses 19, k_la 5 k_u0, k_uses 21, k_la 5 k_u0, k_uses 23, k_la 5 k_u0, k_uses 25, k_la 5 k_u0, k_uses 27, k_la 5 k_u0, k_uses 29, k_la 5 k_u0, .inr (0, [.ref 31, .int (nI 0)]), k_ra 4 14 (k_rws (fun i => 31 + 1 + i)), k_ln k_q0, k_ln k_q0, k_ln k_q0, k_ln k_q0, k_ln k_q0, k_ln k_q0, k_ln k_q0, k_ln k_q0, k_ln k_q0, k_ln k_q0, k_ln k_q0, k_ln k_q0, k_ln k_q0, k_ln k_q0, .inr (0, [.ref 47, .int (nI 0)]), k_ra 4 14 (k_rws (fun i => 47 + 1 + i)), k_ln k_q0, k_ln k_q0, k_ln k_q0, k_ln k_q0, k_ln k_q0, k_ln k_q0, k_ln k_q0, k_ln k_q0, k_ln k_q0, k_ln k_q0, k_ln k_q0, k_ln k_q0, k_ln k_q0, k_ln k_q0, k_so 63 66 67 69 30 0 false (nI 0), .inr (1, [.ref 64, .ref 7, .ref 8]), k_uses 65, k_la 5 k_u0, k_ia 5 (fun _ => nI 0), k_uses 68, k_la 5 k_u0, k_ia 14 (fun _ => nI 0)])) rfl ?_
  refine m_J_run hM 2 rfl ⟨trivial, trivial, trivial⟩ ?_
  refine m_J_putc hM rfl rfl (rfl) (rfl) (by decide) ?_
  refine m_J_S (S2 := (149, [some (.ref 0), some (.int (nI 6))], [], [.inr (7, [.ref 1, .ref 3, .ref 4, .ref 62, .ref 15, .ref 17, .ref 30, .ref 46, .long 0, .int (nI 0), .int (nI 0), .int (nI 0), .int (nI 0), .int (nI 0)]), k_tp 2 0, k_ba 400 (fun _ => nI 0), k_rd 1 0 (-nI 1), .inr (1, [.ref 5, .ref 7, .ref 8]), k_uses 6, k_la 5 k_u0, k_ia 60 (fun _ => nI 0), k_ra 6 6 (k_arows (k_w0 5)), k_la 60 (k_arow 0), k_la 60 (k_arow 1), k_la 60 (k_arow 2), k_la 60 (k_arow 3), k_la 60 (k_arow 4), k_la 60 (k_arow 5), k_uses 16, k_la 5 k_u0, k_ra 5 6 (va_up (va_up (va_up (va_up (va_up (va_up (fun _ => none) 0 (some 18)) 1 (some 20)) 2 (some 22)) 3 (some 24)) 4 (some 26)) 5 (some 28)), k_uses 19, k_la 5 k_u0, k_uses 21, k_la 5 k_u0, k_uses 23, k_la 5 k_u0, k_uses 25, k_la 5 k_u0, k_uses 27, k_la 5 k_u0, k_uses 29, k_la 5 k_u0, .inr (0, [.ref 31, .int (nI 0)]), k_ra 4 14 (k_rws (fun i => 31 + 1 + i)), k_ln k_q0, k_ln k_q0, k_ln k_q0, k_ln k_q0, k_ln k_q0, k_ln k_q0, k_ln k_q0, k_ln k_q0, k_ln k_q0, k_ln k_q0, k_ln k_q0, k_ln k_q0, k_ln k_q0, k_ln k_q0, .inr (0, [.ref 47, .int (nI 0)]), k_ra 4 14 (k_rws (fun i => 47 + 1 + i)), k_ln k_q0, k_ln k_q0, k_ln k_q0, k_ln k_q0, k_ln k_q0, k_ln k_q0, k_ln k_q0, k_ln k_q0, k_ln k_q0, k_ln k_q0, k_ln k_q0, k_ln k_q0, k_ln k_q0, k_ln k_q0, k_so 63 66 67 69 30 0 false (nI 0), .inr (1, [.ref 64, .ref 7, .ref 8]), k_uses 65, k_la 5 k_u0, k_ia 5 (fun _ => nI 0), k_uses 68, k_la 5 k_u0, k_ia 14 (fun _ => nI 0)])) rfl ?_
  refine m_J_run hM 2 rfl ⟨trivial, trivial, trivial⟩ ?_
  refine m_J_putc hM rfl rfl (rfl) (rfl) (by decide) ?_
  refine m_J_S (S2 := (154, [some (.ref 0), some (.int (nI 6))], [], [.inr (7, [.ref 1, .ref 3, .ref 4, .ref 62, .ref 15, .ref 17, .ref 30, .ref 46, .long 0, .int (nI 0), .int (nI 0), .int (nI 0), .int (-nI 1), .int (nI 0)]), k_tp 2 0, k_ba 400 (fun _ => nI 0), k_rd 1 0 (-nI 1), .inr (1, [.ref 5, .ref 7, .ref 8]), k_uses 6, k_la 5 k_u0, k_ia 60 (fun _ => nI 0), k_ra 6 6 (k_arows (k_w0 5)), k_la 60 (k_arow 0), k_la 60 (k_arow 1), k_la 60 (k_arow 2), k_la 60 (k_arow 3), k_la 60 (k_arow 4), k_la 60 (k_arow 5), k_uses 16, k_la 5 k_u0, k_ra 5 6 (va_up (va_up (va_up (va_up (va_up (va_up (fun _ => none) 0 (some 18)) 1 (some 20)) 2 (some 22)) 3 (some 24)) 4 (some 26)) 5 (some 28)), k_uses 19, k_la 5 k_u0, k_uses 21, k_la 5 k_u0, k_uses 23, k_la 5 k_u0, k_uses 25, k_la 5 k_u0, k_uses 27, k_la 5 k_u0, k_uses 29, k_la 5 k_u0, .inr (0, [.ref 31, .int (nI 0)]), k_ra 4 14 (k_rws (fun i => 31 + 1 + i)), k_ln k_q0, k_ln k_q0, k_ln k_q0, k_ln k_q0, k_ln k_q0, k_ln k_q0, k_ln k_q0, k_ln k_q0, k_ln k_q0, k_ln k_q0, k_ln k_q0, k_ln k_q0, k_ln k_q0, k_ln k_q0, .inr (0, [.ref 47, .int (nI 0)]), k_ra 4 14 (k_rws (fun i => 47 + 1 + i)), k_ln k_q0, k_ln k_q0, k_ln k_q0, k_ln k_q0, k_ln k_q0, k_ln k_q0, k_ln k_q0, k_ln k_q0, k_ln k_q0, k_ln k_q0, k_ln k_q0, k_ln k_q0, k_ln k_q0, k_ln k_q0, k_so 63 66 67 69 30 0 false (nI 0), .inr (1, [.ref 64, .ref 7, .ref 8]), k_uses 65, k_la 5 k_u0, k_ia 5 (fun _ => nI 0), k_uses 68, k_la 5 k_u0, k_ia 14 (fun _ => nI 0)])) rfl ?_
  refine m_J_run hM 2 rfl ⟨trivial, trivial, trivial⟩ ?_
  refine m_J_putc hM rfl rfl (rfl) (rfl) (by decide) ?_
  refine m_J_S (S2 := (159, [some (.ref 0), some (.int (nI 6))], [], [.inr (7, [.ref 1, .ref 3, .ref 4, .ref 62, .ref 15, .ref 17, .ref 30, .ref 46, .long 0, .int (nI 0), .int (nI 0), .int (nI 0), .int (-nI 1), .int (nI 0)]), k_tp 2 0, k_ba 400 (fun _ => nI 0), k_rd 1 0 (-nI 1), .inr (1, [.ref 5, .ref 7, .ref 8]), k_uses 6, k_la 5 k_u0, k_ia 60 (fun _ => nI 0), k_ra 6 6 (k_arows (k_w0 5)), k_la 60 (k_arow 0), k_la 60 (k_arow 1), k_la 60 (k_arow 2), k_la 60 (k_arow 3), k_la 60 (k_arow 4), k_la 60 (k_arow 5), k_uses 16, k_la 5 k_u0, k_ra 5 6 (va_up (va_up (va_up (va_up (va_up (va_up (fun _ => none) 0 (some 18)) 1 (some 20)) 2 (some 22)) 3 (some 24)) 4 (some 26)) 5 (some 28)), k_uses 19, k_la 5 k_u0, k_uses 21, k_la 5 k_u0, k_uses 23, k_la 5 k_u0, k_uses 25, k_la 5 k_u0, k_uses 27, k_la 5 k_u0, k_uses 29, k_la 5 k_u0, .inr (0, [.ref 31, .int (nI 0)]), k_ra 4 14 (k_rws (fun i => 31 + 1 + i)), k_ln k_q0, k_ln k_q0, k_ln k_q0, k_ln k_q0, k_ln k_q0, k_ln k_q0, k_ln k_q0, k_ln k_q0, k_ln k_q0, k_ln k_q0, k_ln k_q0, k_ln k_q0, k_ln k_q0, k_ln k_q0, .inr (0, [.ref 47, .int (nI 0)]), k_ra 4 14 (k_rws (fun i => 47 + 1 + i)), k_ln k_q0, k_ln k_q0, k_ln k_q0, k_ln k_q0, k_ln k_q0, k_ln k_q0, k_ln k_q0, k_ln k_q0, k_ln k_q0, k_ln k_q0, k_ln k_q0, k_ln k_q0, k_ln k_q0, k_ln k_q0, k_so 63 66 67 69 30 0 false (nI 0), .inr (1, [.ref 64, .ref 7, .ref 8]), k_uses 65, k_la 5 k_u0, k_ia 5 (fun _ => nI 0), k_uses 68, k_la 5 k_u0, k_ia 14 (fun _ => nI 0)])) rfl ?_
  refine m_vret hM rfl rfl (Nat.le_of_ble_eq_true rfl) (Nat.le_of_ble_eq_true rfl) ?_
  rw [show (va_up (va_up (va_up (va_up (va_up (va_up (fun _ => none) 0 (some 18)) 1 (some 20)) 2 (some 22)) 3 (some 24)) 4 (some 26)) 5 (some 28)) = k_pls from ?_]
  · rfl
  · funext j
    unfold k_pls va_up
    match j with
    | 0 => rfl
    | 1 => rfl
    | 2 => rfl
    | 3 => rfl
    | 4 => rfl
    | 5 => rfl
    | j + 6 => rw [if_neg (show ¬ j + 6 < 6 by omega)]; simp
end
