/-- two ways that come together -/
theorem m_J_join {l : Launch} {EX : State → Prop} {E : mE} {M : mM} {d mc ms : Nat} {PR : Option Value → mH → Bool → Prop} {PX : String → mH → Prop} {tg : Bool} {kc ks : Nat} {S S2 : mS} (h : m_J l EX E M d mc ms PR PX tg kc ks S2 → m_J l EX E M d mc ms PR PX tg kc ks S) (h2 : m_J l EX E M d mc ms PR PX tg kc ks S2) : m_J l EX E M d mc ms PR PX tg kc ks S := h h2
/-! READER: the kinds of line (written by wip/gen_lines.py) -/
def k_RL (H : mH) (z tp tb n : Nat) (g : Nat → Int32) (c : Nat) (R : kR) (q : kL) : Prop := k_TP H z tp tb R.1 R.2 n g ∧ H[c]? = some (k_ln q) ∧ R.1 ≤ n ∧ k_lok q
theorem k_RL_z {H : mH} {z tp tb n : Nat} {g : Nat → Int32} {c : Nat} {R R' : kR} {q : kL} (h : k_RL H z tp tb n g c R q) (hp : R'.1 ≤ n) : k_RL (H.set z (k_rd tp R'.1 R'.2)) z tp tb n g c R' q :=
  ⟨k_TP_z h.1, k_sn (k_neO h.2.1 h.1.1 (by simp)) h.2.1, hp, h.2.2.2⟩
theorem k_RL_c {H : mH} {z tp tb n : Nat} {g : Nat → Int32} {c : Nat} {R : kR} {q q' : kL} (h : k_RL H z tp tb n g c R q) (hq : k_lok q') : k_RL (H.set c (k_ln q')) z tp tb n g c R q' := by
  obtain ⟨⟨h1, h2, h3, h4⟩, h5, h6⟩ := h
  exact ⟨⟨k_sn (k_neO h1 h5 (by simp)) h1, k_sn (k_neO h2 h5 (by simp)) h2, k_sn (Ne.symm (k_ne h5 h3)) h3, h4⟩, k_ss h5, h6.1, hq⟩
/-- the same line with the number of another kind -/
def k_refuse (R : kR) : kR := (R.1, k_rf R.2 R.1)
def k_step (g : Nat → Int32) (n si : Nat) (R : kR) : kR := (k_swp g n R.1 si, R.2)
theorem k_step_le {g : Nat → Int32} {n si : Nat} {R : kR} (hp : R.1 ≤ n) : (k_step g n si R).1 ≤ n := k_swp_le hp
def k_rlaw (g : Nat → Int32) (n : Nat) (q : kL) (R : kR) : kL × kR :=
  let U := k_ru g n R
  let q1 : kL := (q.1, U.1, q.2.2)
  let R9 := k_step g n 9 U.2
  let R10 := k_step g n 10 R9
  let R11 := k_step g n 11 R10
  let R12 := k_step g n 12 R11
  if k_swb g n U.2.1 9 then
    (let V := k_ru g n R9
     ((2, U.1, V.1, q.2.2.2.1, k_nu g n V.2.1 1 5, q.2.2.2.2.2), k_nr g n 1 5 V.2))
  else if k_swb g n R9.1 10 then ((3, U.1, q.2.2.1, q.2.2.2.1, q.2.2.2.2.1, q.2.2.2.2.2.1, nI (k_nu g n R10.1 0 99)), k_nr g n 0 99 R10)
  else if k_swb g n R10.1 11 then ((4, U.1, q.2.2.1, q.2.2.2.1, q.2.2.2.2.1, q.2.2.2.2.2.1, nI (k_nu g n R11.1 0 99)), k_nr g n 0 99 R11)
  else if k_swb g n R11.1 12 then ((5, U.1, q.2.2), R12)
  else (q1, k_refuse R12)
def k_rworth (g : Nat → Int32) (n : Nat) (q : kL) (R : kR) : kL × kR :=
  let U := k_ru g n R
  let Rm := k_step g n 17 U.2
  let nu : Int32 := (if k_swb g n U.2.1 17 then -nI 1 else nI 1) * nI (k_nu g n Rm.1 0 99)
  let Rn := k_nr g n 0 99 Rm
  let R16 := k_step g n 16 Rn
  let R18 := k_step g n 18 R16
  if k_swb g n Rn.1 16 then
    (let V := k_ru g n R16
     ((0, U.1, V.1, q.2.2.2.1, k_nu g n V.2.1 1 5, q.2.2.2.2.2.1, nu), k_nr g n 1 5 V.2))
  else if k_swb g n R16.1 18 then ((1, U.1, q.2.2.1, q.2.2.2.1, q.2.2.2.2.1, k_nu g n R18.1 0 9, nu), k_nr g n 0 9 R18)
  else ((q.1, U.1, q.2.2.1, q.2.2.2.1, q.2.2.2.2.1, q.2.2.2.2.2.1, nu), k_refuse R18)
def k_rgrow (g : Nat → Int32) (n : Nat) (q : kL) (R : kR) : kL × kR :=
  let U := k_ru g n R
  let V := k_ru g n (k_rw g n 14 U.2)
  let W := k_ru g n (k_rw g n 15 V.2)
  let Rs := k_rw g n 16 W.2
  let Rn := k_nr g n 1 5 Rs
  ((6, U.1, W.1, V.1, k_nu g n Rs.1 1 5, q.2.2.2.2.2.1, nI (k_nu g n Rn.1 1 60)), k_nr g n 1 60 Rn)
def k_rline (g : Nat → Int32) (n : Nat) (q : kL) (R : kR) : kL × kR :=
  let R3 := k_step g n 3 R
  let R13 := k_step g n 13 R3
  if k_swb g n R.1 3 then k_rlaw g n q R3 else if k_swb g n R3.1 13 then k_rgrow g n q R13 else k_rworth g n q R13
section
variable {l : Launch} {E : mE} {N : Nat} {xs : Nat → Int32} {d : Nat} {tg : Bool} {h : mH} {z tp tb : Nat} {R : kR} {n : Nat} {g : Nat → Int32} {c : Nat} {q : kL}
set_option maxHeartbeats 2000000 in
theorem t_law (hA : k_RL h z tp tb n g c R q) : m_Sp l (m_EX E N xs) E mM_X3_readLaw (d + 6) 0 0 [.ref z, .ref c] h tg (fun v H tg' => v = none ∧ tg' = tg ∧ k_RL H z tp tb n g c (k_rlaw g n q R).2 (k_rlaw g n q R).1 ∧ k_fr [z, c] h H) m_no := by
  have hM := mM_X3_readLaw_ok
  unfold k_rlaw
  dsimp only
  refine m_Sp_of (by decide) (Nat.le_of_ble_eq_true rfl) ?_
  obtain ⟨H, hH⟩ : ∃ H, H = h := ⟨h, rfl⟩
  have hF : k_fr [z, c] h H := by rw [hH]; exact k_fr_r _ h
  rw [← hH] at hA
  rw [show (0, m_ent [Value.ref z, Value.ref c] mM_X3_readLaw.2.2.1, ([] : List Value), h) = (0, m_ent [Value.ref z, Value.ref c] mM_X3_readLaw.2.2.1, [], H) by rw [hH]]
  clear hH
  have hu := (k_ru_le (g := g) hA.2.2.1).2
  refine m_J_run hM 2 rfl ⟨trivial, trivial, trivial⟩ ?_
  refine m_callV (as := []) (rest := [.ref c]) (m_EX_warm E N xs) hM rfl kw_X3_68 rfl rfl (hA.1.1) ⟨_, rfl, rfl⟩ (t_use (R := R) hA.2.2.1 hA.1) rfl (Nat.le_of_ble_eq_true rfl) (Nat.le_of_ble_eq_true rfl) (Nat.le_of_ble_eq_true rfl) (fun ht => ⟨ht, by simp⟩) ?_
  replace hA := k_RL_z (R' := (k_ru g n R).2) hA (k_ru_le hA.2.2.1).1
  replace hF := k_fr_s (k := z) (c := k_rd tp (k_ru g n R).2.1 (k_ru g n R).2.2) hF (by simp)
  show m_J _ _ _ _ _ _ _ _ _ _ _ _ (_, _, _, H.set z (k_rd tp (k_ru g n R).2.1 (k_ru g n R).2.2))
  generalize H.set z (k_rd tp (k_ru g n R).2.1 (k_ru g n R).2.2) = H at hA hF ⊢
  refine m_J_putf hM rfl rfl (hA.2.1) (rfl) ?_
  replace hA := k_RL_c (q' := (q.1, (k_ru g n R).1, q.2.2)) hA (⟨hA.2.2.2.1, hu, hA.2.2.2.2.2.1, hA.2.2.2.2.2.2.1, hA.2.2.2.2.2.2.2.1, hA.2.2.2.2.2.2.2.2.1, hA.2.2.2.2.2.2.2.2.2⟩)
  replace hF := k_fr_s (k := c) (c := k_ln (q.1, (k_ru g n R).1, q.2.2)) hF (by simp)
  show m_J _ _ _ _ _ _ _ _ _ _ _ _ (_, _, _, H.set c (k_ln (q.1, (k_ru g n R).1, q.2.2)))
  generalize H.set c (k_ln (q.1, (k_ru g n R).1, q.2.2)) = H at hA hF ⊢
  refine m_J_run hM 1 rfl ⟨trivial, trivial⟩ ?_
  refine m_J_ldcS (si := 9) hM rfl rfl ?_
  refine m_callV (as := [.ref (1000001 + 9)]) (rest := []) (m_EX_warm E N xs) hM rfl kw_X3_53 rfl rfl (hA.1.1) ⟨_, rfl, rfl⟩ (t_sw (R := (k_ru g n R).2) (by decide) hA.2.2.1 hA.1) rfl (Nat.le_of_ble_eq_true rfl) (Nat.le_of_ble_eq_true rfl) (Nat.le_of_ble_eq_true rfl) (fun ht => ⟨ht, by simp⟩) ?_
  replace hA := k_RL_z (R' := k_step g n 9 (k_ru g n R).2) hA (k_step_le hA.2.2.1)
  replace hF := k_fr_s (k := z) (c := k_rd tp (k_step g n 9 (k_ru g n R).2).1 (k_step g n 9 (k_ru g n R).2).2) hF (by simp)
  show m_J _ _ _ _ _ _ _ _ _ _ _ _ (_, _, _, H.set z (k_rd tp (k_step g n 9 (k_ru g n R).2).1 (k_step g n 9 (k_ru g n R).2).2))
  generalize H.set z (k_rd tp (k_step g n 9 (k_ru g n R).2).1 (k_step g n 9 (k_ru g n R).2).2) = H at hA hF ⊢
  refine m_J_run hM 1 rfl ⟨trivial, trivial⟩ ?_
  refine m_J_if (fun hc => ?_) (fun hc => ?_)
  case refine_2 =>
    have hc2 := k_z1 hc
    rw [if_pos hc2]
    have hv := (k_ru_le (g := g) hA.2.2.1).2
    refine m_J_run hM 2 rfl ⟨trivial, trivial, trivial⟩ ?_
    refine m_J_putf hM rfl rfl (hA.2.1) (rfl) ?_
    have hA2 := hA.2.1
    have hT0 := hA.1
    have hcz := k_neO hA.2.1 hA.1.1 (by simp)
    have hlk := hA.2.2.2
    have hT1 : k_TP (H.set c (k_ln (2, (k_ru g n R).1, q.2.2))) z tp tb (k_step g n 9 (k_ru g n R).2).1 (k_step g n 9 (k_ru g n R).2).2 n g := by obtain ⟨a1, a2, a3, a4⟩ := hT0; exact ⟨k_sn (Ne.symm hcz) a1, k_sn (k_neO a2 hA2 (by simp)) a2, k_sn (Ne.symm (k_ne hA2 a3)) a3, a4⟩
    have hc1 : (H.set c (k_ln (2, (k_ru g n R).1, q.2.2)))[c]? = some (k_ln (2, (k_ru g n R).1, q.2.2)) := k_ss hA2
    have hp9 := hA.2.2.1
    replace hF := k_fr_s (k := c) (c := k_ln (2, (k_ru g n R).1, q.2.2)) hF (by simp)
    show m_J _ _ _ _ _ _ _ _ _ _ _ _ (_, _, _, H.set c (k_ln (2, (k_ru g n R).1, q.2.2)))
    clear hA hA2 hT0
    generalize H.set c (k_ln (2, (k_ru g n R).1, q.2.2)) = H at hT1 hc1 hF ⊢
    refine m_J_run hM 2 rfl ⟨trivial, trivial, trivial⟩ ?_
    refine m_callV (as := []) (rest := [.ref c]) (m_EX_warm E N xs) hM rfl kw_X3_68 rfl rfl (hT1.1) ⟨_, rfl, rfl⟩ (t_use (R := k_step g n 9 (k_ru g n R).2) hp9 hT1) rfl (Nat.le_of_ble_eq_true rfl) (Nat.le_of_ble_eq_true rfl) (Nat.le_of_ble_eq_true rfl) (fun ht => ⟨ht, by simp⟩) ?_
    replace hc1 := k_sn (z := k_rd tp (k_ru g n (k_step g n 9 (k_ru g n R).2)).2.1 (k_ru g n (k_step g n 9 (k_ru g n R).2)).2.2) hcz hc1
    replace hT1 := k_TP_z (p' := (k_ru g n (k_step g n 9 (k_ru g n R).2)).2.1) (wr' := (k_ru g n (k_step g n 9 (k_ru g n R).2)).2.2) hT1
    replace hp9 := (k_ru_le (g := g) hp9).1
    replace hF := k_fr_s (k := z) (c := k_rd tp (k_ru g n (k_step g n 9 (k_ru g n R).2)).2.1 (k_ru g n (k_step g n 9 (k_ru g n R).2)).2.2) hF (by simp)
    generalize H.set z (k_rd tp (k_ru g n (k_step g n 9 (k_ru g n R).2)).2.1 (k_ru g n (k_step g n 9 (k_ru g n R).2)).2.2) = H at hT1 hc1 hF ⊢
    generalize hV : k_ru g n (k_step g n 9 (k_ru g n R).2) = V at *
    refine m_J_putf hM rfl rfl (hc1) (rfl) ?_
    replace hT1 : k_TP (H.set c (k_ln (2, (k_ru g n R).1, V.1, q.2.2.2))) z tp tb V.2.1 V.2.2 n g := by obtain ⟨a1, a2, a3, a4⟩ := hT1; exact ⟨k_sn (Ne.symm hcz) a1, k_sn (k_neO a2 hc1 (by simp)) a2, k_sn (Ne.symm (k_ne hc1 a3)) a3, a4⟩
    replace hc1 : (H.set c (k_ln (2, (k_ru g n R).1, V.1, q.2.2.2)))[c]? = some (k_ln (2, (k_ru g n R).1, V.1, q.2.2.2)) := k_ss hc1
    replace hF := k_fr_s (k := c) (c := k_ln (2, (k_ru g n R).1, V.1, q.2.2.2)) hF (by simp)
    show m_J _ _ _ _ _ _ _ _ _ _ _ _ (_, _, _, H.set c (k_ln (2, (k_ru g n R).1, V.1, q.2.2.2)))
    generalize H.set c (k_ln (2, (k_ru g n R).1, V.1, q.2.2.2)) = H at hT1 hc1 hF ⊢
    refine m_J_run hM 4 rfl ⟨trivial, trivial, trivial, trivial, trivial⟩ ?_
    refine m_callV (as := [.int (nI 1), .int (nI 5)]) (rest := [.ref c]) (m_EX_warm E N xs) hM rfl kw_X3_79 rfl rfl (hT1.1) ⟨_, rfl, rfl⟩ (t_num (R := V.2) (by omega) (by omega) hp9 hT1) rfl (Nat.le_of_ble_eq_true rfl) (Nat.le_of_ble_eq_true rfl) (Nat.le_of_ble_eq_true rfl) (fun ht => ⟨ht, by simp⟩) ?_
    have hnu := k_nu_ok (g := g) (n := n) (p := V.2.1) (lo := 1) (hi := 5) (by omega) (by omega)
    replace hc1 := k_sn (z := k_rd tp (k_nr g n 1 5 V.2).1 (k_nr g n 1 5 V.2).2) hcz hc1
    replace hT1 := k_TP_z (p' := (k_nr g n 1 5 V.2).1) (wr' := (k_nr g n 1 5 V.2).2) hT1
    replace hp9 := k_nr_le (g := g) (lo := 1) (hi := 5) hp9
    replace hF := k_fr_s (k := z) (c := k_rd tp (k_nr g n 1 5 V.2).1 (k_nr g n 1 5 V.2).2) hF (by simp)
    generalize H.set z (k_rd tp (k_nr g n 1 5 V.2).1 (k_nr g n 1 5 V.2).2) = H at hT1 hc1 hF ⊢
    refine m_J_putf hM rfl rfl (hc1) (rfl) ?_
    refine m_J_run hM 1 rfl ⟨trivial, trivial⟩ ?_
    refine m_J_vret hM rfl rfl (Nat.le_refl _) (Nat.le_refl _) ⟨rfl, rfl, ⟨?_, k_ss hc1, hp9, ⟨(by simp), hu, hv, hlk.2.2.2.1, hnu.2.1, hlk.2.2.2.2.2.1, fun _ => hnu.1⟩⟩, k_fr_s hF (by simp)⟩
    obtain ⟨a1, a2, a3, a4⟩ := hT1
    exact ⟨k_sn (Ne.symm hcz) a1, k_sn (k_neO a2 hc1 (by simp)) a2, k_sn (Ne.symm (k_ne hc1 a3)) a3, a4⟩
  have hc2 := k_z0 hc
  rw [if_neg (by rw [hc2]; decide)]
  clear hc hc2
  refine m_J_run hM 1 rfl ⟨trivial, trivial⟩ ?_
  refine m_J_ldcS (si := 10) hM rfl rfl ?_
  refine m_callV (as := [.ref (1000001 + 10)]) (rest := []) (m_EX_warm E N xs) hM rfl kw_X3_53 rfl rfl (hA.1.1) ⟨_, rfl, rfl⟩ (t_sw (R := (k_step g n 9 (k_ru g n R).2)) (by decide) hA.2.2.1 hA.1) rfl (Nat.le_of_ble_eq_true rfl) (Nat.le_of_ble_eq_true rfl) (Nat.le_of_ble_eq_true rfl) (fun ht => ⟨ht, by simp⟩) ?_
  replace hA := k_RL_z (R' := k_step g n 10 (k_step g n 9 (k_ru g n R).2)) hA (k_step_le hA.2.2.1)
  replace hF := k_fr_s (k := z) (c := k_rd tp (k_step g n 10 (k_step g n 9 (k_ru g n R).2)).1 (k_step g n 10 (k_step g n 9 (k_ru g n R).2)).2) hF (by simp)
  show m_J _ _ _ _ _ _ _ _ _ _ _ _ (_, _, _, H.set z (k_rd tp (k_step g n 10 (k_step g n 9 (k_ru g n R).2)).1 (k_step g n 10 (k_step g n 9 (k_ru g n R).2)).2))
  generalize H.set z (k_rd tp (k_step g n 10 (k_step g n 9 (k_ru g n R).2)).1 (k_step g n 10 (k_step g n 9 (k_ru g n R).2)).2) = H at hA hF ⊢
  refine m_J_run hM 1 rfl ⟨trivial, trivial⟩ ?_
  refine m_J_if (fun hc => ?_) (fun hc => ?_)
  case refine_2 =>
    have hc2 := k_z1 hc
    rw [if_pos hc2]
    refine m_J_run hM 2 rfl ⟨trivial, trivial, trivial⟩ ?_
    refine m_J_putf hM rfl rfl (hA.2.1) (rfl) ?_
    replace hA := k_RL_c (q' := (3, (k_ru g n R).1, q.2.2)) hA (⟨by simp, hA.2.2.2.2.1, hA.2.2.2.2.2.1, hA.2.2.2.2.2.2.1, hA.2.2.2.2.2.2.2.1, hA.2.2.2.2.2.2.2.2.1, fun h => absurd h (by simp)⟩)
    replace hF := k_fr_s (k := c) (c := k_ln (3, (k_ru g n R).1, q.2.2)) hF (by simp)
    show m_J _ _ _ _ _ _ _ _ _ _ _ _ (_, _, _, H.set c (k_ln (3, (k_ru g n R).1, q.2.2)))
    generalize H.set c (k_ln (3, (k_ru g n R).1, q.2.2)) = H at hA hF ⊢
    refine m_J_run hM 4 rfl ⟨trivial, trivial, trivial, trivial, trivial⟩ ?_
    refine m_callV (as := [.int (nI 0), .int (nI 99)]) (rest := [.ref c]) (m_EX_warm E N xs) hM rfl kw_X3_79 rfl rfl (hA.1.1) ⟨_, rfl, rfl⟩ (t_num (R := (k_step g n 10 (k_step g n 9 (k_ru g n R).2))) (by omega) (by omega) hA.2.2.1 hA.1) rfl (Nat.le_of_ble_eq_true rfl) (Nat.le_of_ble_eq_true rfl) (Nat.le_of_ble_eq_true rfl) (fun ht => ⟨ht, by simp⟩) ?_
    replace hA := k_RL_z (R' := k_nr g n 0 99 (k_step g n 10 (k_step g n 9 (k_ru g n R).2))) hA (k_nr_le hA.2.2.1)
    replace hF := k_fr_s (k := z) (c := k_rd tp (k_nr g n 0 99 (k_step g n 10 (k_step g n 9 (k_ru g n R).2))).1 (k_nr g n 0 99 (k_step g n 10 (k_step g n 9 (k_ru g n R).2))).2) hF (by simp)
    show m_J _ _ _ _ _ _ _ _ _ _ _ _ (_, _, _, H.set z (k_rd tp (k_nr g n 0 99 (k_step g n 10 (k_step g n 9 (k_ru g n R).2))).1 (k_nr g n 0 99 (k_step g n 10 (k_step g n 9 (k_ru g n R).2))).2))
    generalize H.set z (k_rd tp (k_nr g n 0 99 (k_step g n 10 (k_step g n 9 (k_ru g n R).2))).1 (k_nr g n 0 99 (k_step g n 10 (k_step g n 9 (k_ru g n R).2))).2) = H at hA hF ⊢
    refine m_J_putf hM rfl rfl (hA.2.1) (rfl) ?_
    replace hA := k_RL_c (q' := (3, (k_ru g n R).1, q.2.2.1, q.2.2.2.1, q.2.2.2.2.1, q.2.2.2.2.2.1, nI (k_nu g n (k_step g n 10 (k_step g n 9 (k_ru g n R).2)).1 0 99))) hA (⟨hA.2.2.2.1, hA.2.2.2.2.1, hA.2.2.2.2.2.1, hA.2.2.2.2.2.2.1, hA.2.2.2.2.2.2.2.1, hA.2.2.2.2.2.2.2.2.1, hA.2.2.2.2.2.2.2.2.2⟩)
    replace hF := k_fr_s (k := c) (c := k_ln (3, (k_ru g n R).1, q.2.2.1, q.2.2.2.1, q.2.2.2.2.1, q.2.2.2.2.2.1, nI (k_nu g n (k_step g n 10 (k_step g n 9 (k_ru g n R).2)).1 0 99))) hF (by simp)
    show m_J _ _ _ _ _ _ _ _ _ _ _ _ (_, _, _, H.set c (k_ln (3, (k_ru g n R).1, q.2.2.1, q.2.2.2.1, q.2.2.2.2.1, q.2.2.2.2.2.1, nI (k_nu g n (k_step g n 10 (k_step g n 9 (k_ru g n R).2)).1 0 99))))
    generalize H.set c (k_ln (3, (k_ru g n R).1, q.2.2.1, q.2.2.2.1, q.2.2.2.2.1, q.2.2.2.2.2.1, nI (k_nu g n (k_step g n 10 (k_step g n 9 (k_ru g n R).2)).1 0 99))) = H at hA hF ⊢
    refine m_J_run hM 1 rfl ⟨trivial, trivial⟩ ?_
    exact m_J_vret hM rfl rfl (Nat.le_refl _) (Nat.le_refl _) ⟨rfl, rfl, hA, hF⟩
  have hc2 := k_z0 hc
  rw [if_neg (by rw [hc2]; decide)]
  clear hc hc2
  refine m_J_run hM 1 rfl ⟨trivial, trivial⟩ ?_
  refine m_J_ldcS (si := 11) hM rfl rfl ?_
  refine m_callV (as := [.ref (1000001 + 11)]) (rest := []) (m_EX_warm E N xs) hM rfl kw_X3_53 rfl rfl (hA.1.1) ⟨_, rfl, rfl⟩ (t_sw (R := (k_step g n 10 (k_step g n 9 (k_ru g n R).2))) (by decide) hA.2.2.1 hA.1) rfl (Nat.le_of_ble_eq_true rfl) (Nat.le_of_ble_eq_true rfl) (Nat.le_of_ble_eq_true rfl) (fun ht => ⟨ht, by simp⟩) ?_
  replace hA := k_RL_z (R' := k_step g n 11 (k_step g n 10 (k_step g n 9 (k_ru g n R).2))) hA (k_step_le hA.2.2.1)
  replace hF := k_fr_s (k := z) (c := k_rd tp (k_step g n 11 (k_step g n 10 (k_step g n 9 (k_ru g n R).2))).1 (k_step g n 11 (k_step g n 10 (k_step g n 9 (k_ru g n R).2))).2) hF (by simp)
  show m_J _ _ _ _ _ _ _ _ _ _ _ _ (_, _, _, H.set z (k_rd tp (k_step g n 11 (k_step g n 10 (k_step g n 9 (k_ru g n R).2))).1 (k_step g n 11 (k_step g n 10 (k_step g n 9 (k_ru g n R).2))).2))
  generalize H.set z (k_rd tp (k_step g n 11 (k_step g n 10 (k_step g n 9 (k_ru g n R).2))).1 (k_step g n 11 (k_step g n 10 (k_step g n 9 (k_ru g n R).2))).2) = H at hA hF ⊢
  refine m_J_run hM 1 rfl ⟨trivial, trivial⟩ ?_
  refine m_J_if (fun hc => ?_) (fun hc => ?_)
  case refine_2 =>
    have hc2 := k_z1 hc
    rw [if_pos hc2]
    refine m_J_run hM 2 rfl ⟨trivial, trivial, trivial⟩ ?_
    refine m_J_putf hM rfl rfl (hA.2.1) (rfl) ?_
    replace hA := k_RL_c (q' := (4, (k_ru g n R).1, q.2.2)) hA (⟨by simp, hA.2.2.2.2.1, hA.2.2.2.2.2.1, hA.2.2.2.2.2.2.1, hA.2.2.2.2.2.2.2.1, hA.2.2.2.2.2.2.2.2.1, fun h => absurd h (by simp)⟩)
    replace hF := k_fr_s (k := c) (c := k_ln (4, (k_ru g n R).1, q.2.2)) hF (by simp)
    show m_J _ _ _ _ _ _ _ _ _ _ _ _ (_, _, _, H.set c (k_ln (4, (k_ru g n R).1, q.2.2)))
    generalize H.set c (k_ln (4, (k_ru g n R).1, q.2.2)) = H at hA hF ⊢
    refine m_J_run hM 4 rfl ⟨trivial, trivial, trivial, trivial, trivial⟩ ?_
    refine m_callV (as := [.int (nI 0), .int (nI 99)]) (rest := [.ref c]) (m_EX_warm E N xs) hM rfl kw_X3_79 rfl rfl (hA.1.1) ⟨_, rfl, rfl⟩ (t_num (R := (k_step g n 11 (k_step g n 10 (k_step g n 9 (k_ru g n R).2)))) (by omega) (by omega) hA.2.2.1 hA.1) rfl (Nat.le_of_ble_eq_true rfl) (Nat.le_of_ble_eq_true rfl) (Nat.le_of_ble_eq_true rfl) (fun ht => ⟨ht, by simp⟩) ?_
    replace hA := k_RL_z (R' := k_nr g n 0 99 (k_step g n 11 (k_step g n 10 (k_step g n 9 (k_ru g n R).2)))) hA (k_nr_le hA.2.2.1)
    replace hF := k_fr_s (k := z) (c := k_rd tp (k_nr g n 0 99 (k_step g n 11 (k_step g n 10 (k_step g n 9 (k_ru g n R).2)))).1 (k_nr g n 0 99 (k_step g n 11 (k_step g n 10 (k_step g n 9 (k_ru g n R).2)))).2) hF (by simp)
    show m_J _ _ _ _ _ _ _ _ _ _ _ _ (_, _, _, H.set z (k_rd tp (k_nr g n 0 99 (k_step g n 11 (k_step g n 10 (k_step g n 9 (k_ru g n R).2)))).1 (k_nr g n 0 99 (k_step g n 11 (k_step g n 10 (k_step g n 9 (k_ru g n R).2)))).2))
    generalize H.set z (k_rd tp (k_nr g n 0 99 (k_step g n 11 (k_step g n 10 (k_step g n 9 (k_ru g n R).2)))).1 (k_nr g n 0 99 (k_step g n 11 (k_step g n 10 (k_step g n 9 (k_ru g n R).2)))).2) = H at hA hF ⊢
    refine m_J_putf hM rfl rfl (hA.2.1) (rfl) ?_
    replace hA := k_RL_c (q' := (4, (k_ru g n R).1, q.2.2.1, q.2.2.2.1, q.2.2.2.2.1, q.2.2.2.2.2.1, nI (k_nu g n (k_step g n 11 (k_step g n 10 (k_step g n 9 (k_ru g n R).2))).1 0 99))) hA (⟨hA.2.2.2.1, hA.2.2.2.2.1, hA.2.2.2.2.2.1, hA.2.2.2.2.2.2.1, hA.2.2.2.2.2.2.2.1, hA.2.2.2.2.2.2.2.2.1, hA.2.2.2.2.2.2.2.2.2⟩)
    replace hF := k_fr_s (k := c) (c := k_ln (4, (k_ru g n R).1, q.2.2.1, q.2.2.2.1, q.2.2.2.2.1, q.2.2.2.2.2.1, nI (k_nu g n (k_step g n 11 (k_step g n 10 (k_step g n 9 (k_ru g n R).2))).1 0 99))) hF (by simp)
    show m_J _ _ _ _ _ _ _ _ _ _ _ _ (_, _, _, H.set c (k_ln (4, (k_ru g n R).1, q.2.2.1, q.2.2.2.1, q.2.2.2.2.1, q.2.2.2.2.2.1, nI (k_nu g n (k_step g n 11 (k_step g n 10 (k_step g n 9 (k_ru g n R).2))).1 0 99))))
    generalize H.set c (k_ln (4, (k_ru g n R).1, q.2.2.1, q.2.2.2.1, q.2.2.2.2.1, q.2.2.2.2.2.1, nI (k_nu g n (k_step g n 11 (k_step g n 10 (k_step g n 9 (k_ru g n R).2))).1 0 99))) = H at hA hF ⊢
    refine m_J_run hM 1 rfl ⟨trivial, trivial⟩ ?_
    exact m_J_vret hM rfl rfl (Nat.le_refl _) (Nat.le_refl _) ⟨rfl, rfl, hA, hF⟩
  have hc2 := k_z0 hc
  rw [if_neg (by rw [hc2]; decide)]
  clear hc hc2
  refine m_J_run hM 1 rfl ⟨trivial, trivial⟩ ?_
  refine m_J_ldcS (si := 12) hM rfl rfl ?_
  refine m_callV (as := [.ref (1000001 + 12)]) (rest := []) (m_EX_warm E N xs) hM rfl kw_X3_53 rfl rfl (hA.1.1) ⟨_, rfl, rfl⟩ (t_sw (R := (k_step g n 11 (k_step g n 10 (k_step g n 9 (k_ru g n R).2)))) (by decide) hA.2.2.1 hA.1) rfl (Nat.le_of_ble_eq_true rfl) (Nat.le_of_ble_eq_true rfl) (Nat.le_of_ble_eq_true rfl) (fun ht => ⟨ht, by simp⟩) ?_
  replace hA := k_RL_z (R' := k_step g n 12 (k_step g n 11 (k_step g n 10 (k_step g n 9 (k_ru g n R).2)))) hA (k_step_le hA.2.2.1)
  replace hF := k_fr_s (k := z) (c := k_rd tp (k_step g n 12 (k_step g n 11 (k_step g n 10 (k_step g n 9 (k_ru g n R).2)))).1 (k_step g n 12 (k_step g n 11 (k_step g n 10 (k_step g n 9 (k_ru g n R).2)))).2) hF (by simp)
  show m_J _ _ _ _ _ _ _ _ _ _ _ _ (_, _, _, H.set z (k_rd tp (k_step g n 12 (k_step g n 11 (k_step g n 10 (k_step g n 9 (k_ru g n R).2)))).1 (k_step g n 12 (k_step g n 11 (k_step g n 10 (k_step g n 9 (k_ru g n R).2)))).2))
  generalize H.set z (k_rd tp (k_step g n 12 (k_step g n 11 (k_step g n 10 (k_step g n 9 (k_ru g n R).2)))).1 (k_step g n 12 (k_step g n 11 (k_step g n 10 (k_step g n 9 (k_ru g n R).2)))).2) = H at hA hF ⊢
  refine m_J_run hM 1 rfl ⟨trivial, trivial⟩ ?_
  refine m_J_if (fun hc => ?_) (fun hc => ?_)
  case refine_2 =>
    have hc2 := k_z1 hc
    rw [if_pos hc2]
    refine m_J_run hM 2 rfl ⟨trivial, trivial, trivial⟩ ?_
    refine m_J_putf hM rfl rfl (hA.2.1) (rfl) ?_
    replace hA := k_RL_c (q' := (5, (k_ru g n R).1, q.2.2)) hA (⟨by simp, hA.2.2.2.2.1, hA.2.2.2.2.2.1, hA.2.2.2.2.2.2.1, hA.2.2.2.2.2.2.2.1, hA.2.2.2.2.2.2.2.2.1, fun h => absurd h (by simp)⟩)
    replace hF := k_fr_s (k := c) (c := k_ln (5, (k_ru g n R).1, q.2.2)) hF (by simp)
    show m_J _ _ _ _ _ _ _ _ _ _ _ _ (_, _, _, H.set c (k_ln (5, (k_ru g n R).1, q.2.2)))
    generalize H.set c (k_ln (5, (k_ru g n R).1, q.2.2)) = H at hA hF ⊢
    refine m_J_run hM 1 rfl ⟨trivial, trivial⟩ ?_
    exact m_J_vret hM rfl rfl (Nat.le_refl _) (Nat.le_refl _) ⟨rfl, rfl, hA, hF⟩
  have hc2 := k_z0 hc
  rw [if_neg (by rw [hc2]; decide)]
  clear hc hc2
  refine m_J_run hM 1 rfl ⟨trivial, trivial⟩ ?_
  refine m_callV (as := []) (rest := []) (m_EX_warm E N xs) hM rfl kw_X3_48 rfl rfl (hA.1.1) ⟨_, rfl, rfl⟩ (t_ref hA.1) rfl (Nat.le_of_ble_eq_true rfl) (Nat.le_of_ble_eq_true rfl) (Nat.le_of_ble_eq_true rfl) (fun ht => ⟨ht, by simp⟩) ?_
  replace hA := k_RL_z (R' := k_refuse (k_step g n 12 (k_step g n 11 (k_step g n 10 (k_step g n 9 (k_ru g n R).2))))) hA hA.2.2.1
  replace hF := k_fr_s (k := z) (c := k_rd tp (k_refuse (k_step g n 12 (k_step g n 11 (k_step g n 10 (k_step g n 9 (k_ru g n R).2))))).1 (k_refuse (k_step g n 12 (k_step g n 11 (k_step g n 10 (k_step g n 9 (k_ru g n R).2))))).2) hF (by simp)
  show m_J _ _ _ _ _ _ _ _ _ _ _ _ (_, _, _, H.set z (k_rd tp (k_refuse (k_step g n 12 (k_step g n 11 (k_step g n 10 (k_step g n 9 (k_ru g n R).2))))).1 (k_refuse (k_step g n 12 (k_step g n 11 (k_step g n 10 (k_step g n 9 (k_ru g n R).2))))).2))
  generalize H.set z (k_rd tp (k_refuse (k_step g n 12 (k_step g n 11 (k_step g n 10 (k_step g n 9 (k_ru g n R).2))))).1 (k_refuse (k_step g n 12 (k_step g n 11 (k_step g n 10 (k_step g n 9 (k_ru g n R).2))))).2) = H at hA hF ⊢
  exact m_J_vret hM rfl rfl (Nat.le_refl _) (Nat.le_refl _) ⟨rfl, rfl, hA, hF⟩
set_option maxHeartbeats 2000000 in
theorem t_worth (hA : k_RL h z tp tb n g c R q) : m_Sp l (m_EX E N xs) E mM_X3_readWorth (d + 6) 0 0 [.ref z, .ref c] h tg (fun v H tg' => v = none ∧ tg' = tg ∧ k_RL H z tp tb n g c (k_rworth g n q R).2 (k_rworth g n q R).1 ∧ k_fr [z, c] h H) m_no := by
  have hM := mM_X3_readWorth_ok
  unfold k_rworth
  dsimp only
  refine m_Sp_of (by decide) (Nat.le_of_ble_eq_true rfl) ?_
  obtain ⟨H, hH⟩ : ∃ H, H = h := ⟨h, rfl⟩
  have hF : k_fr [z, c] h H := by rw [hH]; exact k_fr_r _ h
  rw [← hH] at hA
  rw [show (0, m_ent [Value.ref z, Value.ref c] mM_X3_readWorth.2.2.1, ([] : List Value), h) = (0, m_ent [Value.ref z, Value.ref c] mM_X3_readWorth.2.2.1, [], H) by rw [hH]]
  clear hH
  have hu := (k_ru_le (g := g) hA.2.2.1).2
  refine m_J_run hM 2 rfl ⟨trivial, trivial, trivial⟩ ?_
  refine m_callV (as := []) (rest := [.ref c]) (m_EX_warm E N xs) hM rfl kw_X3_68 rfl rfl (hA.1.1) ⟨_, rfl, rfl⟩ (t_use (R := R) hA.2.2.1 hA.1) rfl (Nat.le_of_ble_eq_true rfl) (Nat.le_of_ble_eq_true rfl) (Nat.le_of_ble_eq_true rfl) (fun ht => ⟨ht, by simp⟩) ?_
  replace hA := k_RL_z (R' := (k_ru g n R).2) hA (k_ru_le hA.2.2.1).1
  replace hF := k_fr_s (k := z) (c := k_rd tp (k_ru g n R).2.1 (k_ru g n R).2.2) hF (by simp)
  show m_J _ _ _ _ _ _ _ _ _ _ _ _ (_, _, _, H.set z (k_rd tp (k_ru g n R).2.1 (k_ru g n R).2.2))
  generalize H.set z (k_rd tp (k_ru g n R).2.1 (k_ru g n R).2.2) = H at hA hF ⊢
  refine m_J_putf hM rfl rfl (hA.2.1) (rfl) ?_
  replace hA := k_RL_c (q' := (q.1, (k_ru g n R).1, q.2.2)) hA (⟨hA.2.2.2.1, hu, hA.2.2.2.2.2.1, hA.2.2.2.2.2.2.1, hA.2.2.2.2.2.2.2.1, hA.2.2.2.2.2.2.2.2.1, hA.2.2.2.2.2.2.2.2.2⟩)
  replace hF := k_fr_s (k := c) (c := k_ln (q.1, (k_ru g n R).1, q.2.2)) hF (by simp)
  show m_J _ _ _ _ _ _ _ _ _ _ _ _ (_, _, _, H.set c (k_ln (q.1, (k_ru g n R).1, q.2.2)))
  generalize H.set c (k_ln (q.1, (k_ru g n R).1, q.2.2)) = H at hA hF ⊢
  refine m_J_run hM 1 rfl ⟨trivial, trivial⟩ ?_
  refine m_J_ldcS (si := 17) hM rfl rfl ?_
  refine m_callV (as := [.ref (1000001 + 17)]) (rest := []) (m_EX_warm E N xs) hM rfl kw_X3_53 rfl rfl (hA.1.1) ⟨_, rfl, rfl⟩ (t_sw (R := (k_ru g n R).2) (by decide) hA.2.2.1 hA.1) rfl (Nat.le_of_ble_eq_true rfl) (Nat.le_of_ble_eq_true rfl) (Nat.le_of_ble_eq_true rfl) (fun ht => ⟨ht, by simp⟩) ?_
  replace hA := k_RL_z (R' := k_step g n 17 (k_ru g n R).2) hA (k_step_le hA.2.2.1)
  replace hF := k_fr_s (k := z) (c := k_rd tp (k_step g n 17 (k_ru g n R).2).1 (k_step g n 17 (k_ru g n R).2).2) hF (by simp)
  show m_J _ _ _ _ _ _ _ _ _ _ _ _ (_, _, _, H.set z (k_rd tp (k_step g n 17 (k_ru g n R).2).1 (k_step g n 17 (k_ru g n R).2).2))
  generalize H.set z (k_rd tp (k_step g n 17 (k_ru g n R).2).1 (k_step g n 17 (k_ru g n R).2).2) = H at hA hF ⊢
  refine m_J_run hM 1 rfl ⟨trivial, trivial⟩ ?_
  generalize hsg : (if k_swb g n (k_ru g n R).2.1 17 = true then -nI 1 else nI 1) = sg
  refine m_J_join (S2 := (22, [some (.ref z), some (.ref c), none], [.int sg], H)) ?_ ?_
  · intro hJ
    refine m_J_if (fun hc => ?_) (fun hc => ?_)
    · have hc2 := k_z0 hc
      rw [if_neg (by rw [hc2]; decide)] at hsg
      refine m_J_run hM 1 rfl ⟨trivial, trivial⟩ ?_
      rw [hsg]
      exact hJ
    · have hc2 := k_z1 hc
      rw [if_pos hc2] at hsg
      refine m_J_run hM 2 rfl ⟨trivial, trivial, trivial⟩ ?_
      rw [hsg]
      exact hJ
  refine m_J_run hM 6 rfl ⟨trivial, trivial, trivial, trivial, trivial, trivial, trivial⟩ ?_
  refine m_callV (as := [.int (nI 0), .int (nI 99)]) (rest := [.int sg, .ref c]) (m_EX_warm E N xs) hM rfl kw_X3_79 rfl rfl (hA.1.1) ⟨_, rfl, rfl⟩ (t_num (R := (k_step g n 17 (k_ru g n R).2)) (by omega) (by omega) hA.2.2.1 hA.1) rfl (Nat.le_of_ble_eq_true rfl) (Nat.le_of_ble_eq_true rfl) (Nat.le_of_ble_eq_true rfl) (fun ht => ⟨ht, by simp⟩) ?_
  replace hA := k_RL_z (R' := k_nr g n 0 99 (k_step g n 17 (k_ru g n R).2)) hA (k_nr_le hA.2.2.1)
  replace hF := k_fr_s (k := z) (c := k_rd tp (k_nr g n 0 99 (k_step g n 17 (k_ru g n R).2)).1 (k_nr g n 0 99 (k_step g n 17 (k_ru g n R).2)).2) hF (by simp)
  show m_J _ _ _ _ _ _ _ _ _ _ _ _ (_, _, _, H.set z (k_rd tp (k_nr g n 0 99 (k_step g n 17 (k_ru g n R).2)).1 (k_nr g n 0 99 (k_step g n 17 (k_ru g n R).2)).2))
  generalize H.set z (k_rd tp (k_nr g n 0 99 (k_step g n 17 (k_ru g n R).2)).1 (k_nr g n 0 99 (k_step g n 17 (k_ru g n R).2)).2) = H at hA hF ⊢
  refine m_J_run hM 1 rfl ⟨trivial, trivial⟩ ?_
  refine m_J_putf hM rfl rfl (hA.2.1) (rfl) ?_
  replace hA := k_RL_c (q' := (q.1, (k_ru g n R).1, q.2.2.1, q.2.2.2.1, q.2.2.2.2.1, q.2.2.2.2.2.1, sg * nI (k_nu g n (k_step g n 17 (k_ru g n R).2).1 0 99))) hA (⟨hA.2.2.2.1, hA.2.2.2.2.1, hA.2.2.2.2.2.1, hA.2.2.2.2.2.2.1, hA.2.2.2.2.2.2.2.1, hA.2.2.2.2.2.2.2.2.1, hA.2.2.2.2.2.2.2.2.2⟩)
  replace hF := k_fr_s (k := c) (c := k_ln (q.1, (k_ru g n R).1, q.2.2.1, q.2.2.2.1, q.2.2.2.2.1, q.2.2.2.2.2.1, sg * nI (k_nu g n (k_step g n 17 (k_ru g n R).2).1 0 99))) hF (by simp)
  show m_J _ _ _ _ _ _ _ _ _ _ _ _ (_, _, _, H.set c (k_ln (q.1, (k_ru g n R).1, q.2.2.1, q.2.2.2.1, q.2.2.2.2.1, q.2.2.2.2.2.1, sg * nI (k_nu g n (k_step g n 17 (k_ru g n R).2).1 0 99))))
  generalize H.set c (k_ln (q.1, (k_ru g n R).1, q.2.2.1, q.2.2.2.1, q.2.2.2.2.1, q.2.2.2.2.2.1, sg * nI (k_nu g n (k_step g n 17 (k_ru g n R).2).1 0 99))) = H at hA hF ⊢
  refine m_J_run hM 1 rfl ⟨trivial, trivial⟩ ?_
  refine m_J_ldcS (si := 16) hM rfl rfl ?_
  refine m_callV (as := [.ref (1000001 + 16)]) (rest := []) (m_EX_warm E N xs) hM rfl kw_X3_53 rfl rfl (hA.1.1) ⟨_, rfl, rfl⟩ (t_sw (R := (k_nr g n 0 99 (k_step g n 17 (k_ru g n R).2))) (by decide) hA.2.2.1 hA.1) rfl (Nat.le_of_ble_eq_true rfl) (Nat.le_of_ble_eq_true rfl) (Nat.le_of_ble_eq_true rfl) (fun ht => ⟨ht, by simp⟩) ?_
  replace hA := k_RL_z (R' := k_step g n 16 (k_nr g n 0 99 (k_step g n 17 (k_ru g n R).2))) hA (k_step_le hA.2.2.1)
  replace hF := k_fr_s (k := z) (c := k_rd tp (k_step g n 16 (k_nr g n 0 99 (k_step g n 17 (k_ru g n R).2))).1 (k_step g n 16 (k_nr g n 0 99 (k_step g n 17 (k_ru g n R).2))).2) hF (by simp)
  show m_J _ _ _ _ _ _ _ _ _ _ _ _ (_, _, _, H.set z (k_rd tp (k_step g n 16 (k_nr g n 0 99 (k_step g n 17 (k_ru g n R).2))).1 (k_step g n 16 (k_nr g n 0 99 (k_step g n 17 (k_ru g n R).2))).2))
  generalize H.set z (k_rd tp (k_step g n 16 (k_nr g n 0 99 (k_step g n 17 (k_ru g n R).2))).1 (k_step g n 16 (k_nr g n 0 99 (k_step g n 17 (k_ru g n R).2))).2) = H at hA hF ⊢
  refine m_J_run hM 1 rfl ⟨trivial, trivial⟩ ?_
  refine m_J_if (fun hc => ?_) (fun hc => ?_)
  case refine_2 =>
    have hc2 := k_z1 hc
    rw [if_pos hc2]
    have hv := (k_ru_le (g := g) hA.2.2.1).2
    refine m_J_run hM 2 rfl ⟨trivial, trivial, trivial⟩ ?_
    refine m_J_putf hM rfl rfl (hA.2.1) (rfl) ?_
    replace hA := k_RL_c (q' := (0, (k_ru g n R).1, q.2.2.1, q.2.2.2.1, q.2.2.2.2.1, q.2.2.2.2.2.1, sg * nI (k_nu g n (k_step g n 17 (k_ru g n R).2).1 0 99))) hA (⟨by simp, hA.2.2.2.2.1, hA.2.2.2.2.2.1, hA.2.2.2.2.2.2.1, hA.2.2.2.2.2.2.2.1, hA.2.2.2.2.2.2.2.2.1, fun h => absurd h (by simp)⟩)
    replace hF := k_fr_s (k := c) (c := k_ln (0, (k_ru g n R).1, q.2.2.1, q.2.2.2.1, q.2.2.2.2.1, q.2.2.2.2.2.1, sg * nI (k_nu g n (k_step g n 17 (k_ru g n R).2).1 0 99))) hF (by simp)
    show m_J _ _ _ _ _ _ _ _ _ _ _ _ (_, _, _, H.set c (k_ln (0, (k_ru g n R).1, q.2.2.1, q.2.2.2.1, q.2.2.2.2.1, q.2.2.2.2.2.1, sg * nI (k_nu g n (k_step g n 17 (k_ru g n R).2).1 0 99))))
    generalize H.set c (k_ln (0, (k_ru g n R).1, q.2.2.1, q.2.2.2.1, q.2.2.2.2.1, q.2.2.2.2.2.1, sg * nI (k_nu g n (k_step g n 17 (k_ru g n R).2).1 0 99))) = H at hA hF ⊢
    refine m_J_run hM 2 rfl ⟨trivial, trivial, trivial⟩ ?_
    refine m_callV (as := []) (rest := [.ref c]) (m_EX_warm E N xs) hM rfl kw_X3_68 rfl rfl (hA.1.1) ⟨_, rfl, rfl⟩ (t_use (R := (k_step g n 16 (k_nr g n 0 99 (k_step g n 17 (k_ru g n R).2)))) hA.2.2.1 hA.1) rfl (Nat.le_of_ble_eq_true rfl) (Nat.le_of_ble_eq_true rfl) (Nat.le_of_ble_eq_true rfl) (fun ht => ⟨ht, by simp⟩) ?_
    replace hA := k_RL_z (R' := (k_ru g n (k_step g n 16 (k_nr g n 0 99 (k_step g n 17 (k_ru g n R).2)))).2) hA (k_ru_le hA.2.2.1).1
    replace hF := k_fr_s (k := z) (c := k_rd tp (k_ru g n (k_step g n 16 (k_nr g n 0 99 (k_step g n 17 (k_ru g n R).2)))).2.1 (k_ru g n (k_step g n 16 (k_nr g n 0 99 (k_step g n 17 (k_ru g n R).2)))).2.2) hF (by simp)
    show m_J _ _ _ _ _ _ _ _ _ _ _ _ (_, _, _, H.set z (k_rd tp (k_ru g n (k_step g n 16 (k_nr g n 0 99 (k_step g n 17 (k_ru g n R).2)))).2.1 (k_ru g n (k_step g n 16 (k_nr g n 0 99 (k_step g n 17 (k_ru g n R).2)))).2.2))
    generalize H.set z (k_rd tp (k_ru g n (k_step g n 16 (k_nr g n 0 99 (k_step g n 17 (k_ru g n R).2)))).2.1 (k_ru g n (k_step g n 16 (k_nr g n 0 99 (k_step g n 17 (k_ru g n R).2)))).2.2) = H at hA hF ⊢
    refine m_J_putf hM rfl rfl (hA.2.1) (rfl) ?_
    replace hA := k_RL_c (q' := (0, (k_ru g n R).1, (k_ru g n (k_step g n 16 (k_nr g n 0 99 (k_step g n 17 (k_ru g n R).2)))).1, q.2.2.2.1, q.2.2.2.2.1, q.2.2.2.2.2.1, sg * nI (k_nu g n (k_step g n 17 (k_ru g n R).2).1 0 99))) hA (⟨hA.2.2.2.1, hA.2.2.2.2.1, hv, hA.2.2.2.2.2.2.1, hA.2.2.2.2.2.2.2.1, hA.2.2.2.2.2.2.2.2.1, hA.2.2.2.2.2.2.2.2.2⟩)
    replace hF := k_fr_s (k := c) (c := k_ln (0, (k_ru g n R).1, (k_ru g n (k_step g n 16 (k_nr g n 0 99 (k_step g n 17 (k_ru g n R).2)))).1, q.2.2.2.1, q.2.2.2.2.1, q.2.2.2.2.2.1, sg * nI (k_nu g n (k_step g n 17 (k_ru g n R).2).1 0 99))) hF (by simp)
    show m_J _ _ _ _ _ _ _ _ _ _ _ _ (_, _, _, H.set c (k_ln (0, (k_ru g n R).1, (k_ru g n (k_step g n 16 (k_nr g n 0 99 (k_step g n 17 (k_ru g n R).2)))).1, q.2.2.2.1, q.2.2.2.2.1, q.2.2.2.2.2.1, sg * nI (k_nu g n (k_step g n 17 (k_ru g n R).2).1 0 99))))
    generalize H.set c (k_ln (0, (k_ru g n R).1, (k_ru g n (k_step g n 16 (k_nr g n 0 99 (k_step g n 17 (k_ru g n R).2)))).1, q.2.2.2.1, q.2.2.2.2.1, q.2.2.2.2.2.1, sg * nI (k_nu g n (k_step g n 17 (k_ru g n R).2).1 0 99))) = H at hA hF ⊢
    refine m_J_run hM 4 rfl ⟨trivial, trivial, trivial, trivial, trivial⟩ ?_
    have hnu := k_nu_ok (g := g) (n := n) (p := (k_ru g n (k_step g n 16 (k_nr g n 0 99 (k_step g n 17 (k_ru g n R).2)))).2.1) (lo := 1) (hi := 5) (by omega) (by omega)
    refine m_callV (as := [.int (nI 1), .int (nI 5)]) (rest := [.ref c]) (m_EX_warm E N xs) hM rfl kw_X3_79 rfl rfl (hA.1.1) ⟨_, rfl, rfl⟩ (t_num (R := (k_ru g n (k_step g n 16 (k_nr g n 0 99 (k_step g n 17 (k_ru g n R).2)))).2) (by omega) (by omega) hA.2.2.1 hA.1) rfl (Nat.le_of_ble_eq_true rfl) (Nat.le_of_ble_eq_true rfl) (Nat.le_of_ble_eq_true rfl) (fun ht => ⟨ht, by simp⟩) ?_
    replace hA := k_RL_z (R' := k_nr g n 1 5 (k_ru g n (k_step g n 16 (k_nr g n 0 99 (k_step g n 17 (k_ru g n R).2)))).2) hA (k_nr_le hA.2.2.1)
    replace hF := k_fr_s (k := z) (c := k_rd tp (k_nr g n 1 5 (k_ru g n (k_step g n 16 (k_nr g n 0 99 (k_step g n 17 (k_ru g n R).2)))).2).1 (k_nr g n 1 5 (k_ru g n (k_step g n 16 (k_nr g n 0 99 (k_step g n 17 (k_ru g n R).2)))).2).2) hF (by simp)
    show m_J _ _ _ _ _ _ _ _ _ _ _ _ (_, _, _, H.set z (k_rd tp (k_nr g n 1 5 (k_ru g n (k_step g n 16 (k_nr g n 0 99 (k_step g n 17 (k_ru g n R).2)))).2).1 (k_nr g n 1 5 (k_ru g n (k_step g n 16 (k_nr g n 0 99 (k_step g n 17 (k_ru g n R).2)))).2).2))
    generalize H.set z (k_rd tp (k_nr g n 1 5 (k_ru g n (k_step g n 16 (k_nr g n 0 99 (k_step g n 17 (k_ru g n R).2)))).2).1 (k_nr g n 1 5 (k_ru g n (k_step g n 16 (k_nr g n 0 99 (k_step g n 17 (k_ru g n R).2)))).2).2) = H at hA hF ⊢
    refine m_J_putf hM rfl rfl (hA.2.1) (rfl) ?_
    replace hA := k_RL_c (q' := (0, (k_ru g n R).1, (k_ru g n (k_step g n 16 (k_nr g n 0 99 (k_step g n 17 (k_ru g n R).2)))).1, q.2.2.2.1, k_nu g n (k_ru g n (k_step g n 16 (k_nr g n 0 99 (k_step g n 17 (k_ru g n R).2)))).2.1 1 5, q.2.2.2.2.2.1, sg * nI (k_nu g n (k_step g n 17 (k_ru g n R).2).1 0 99))) hA (⟨hA.2.2.2.1, hA.2.2.2.2.1, hA.2.2.2.2.2.1, hA.2.2.2.2.2.2.1, hnu.2.1, hA.2.2.2.2.2.2.2.2.1, fun h => absurd h (by simp)⟩)
    replace hF := k_fr_s (k := c) (c := k_ln (0, (k_ru g n R).1, (k_ru g n (k_step g n 16 (k_nr g n 0 99 (k_step g n 17 (k_ru g n R).2)))).1, q.2.2.2.1, k_nu g n (k_ru g n (k_step g n 16 (k_nr g n 0 99 (k_step g n 17 (k_ru g n R).2)))).2.1 1 5, q.2.2.2.2.2.1, sg * nI (k_nu g n (k_step g n 17 (k_ru g n R).2).1 0 99))) hF (by simp)
    show m_J _ _ _ _ _ _ _ _ _ _ _ _ (_, _, _, H.set c (k_ln (0, (k_ru g n R).1, (k_ru g n (k_step g n 16 (k_nr g n 0 99 (k_step g n 17 (k_ru g n R).2)))).1, q.2.2.2.1, k_nu g n (k_ru g n (k_step g n 16 (k_nr g n 0 99 (k_step g n 17 (k_ru g n R).2)))).2.1 1 5, q.2.2.2.2.2.1, sg * nI (k_nu g n (k_step g n 17 (k_ru g n R).2).1 0 99))))
    generalize H.set c (k_ln (0, (k_ru g n R).1, (k_ru g n (k_step g n 16 (k_nr g n 0 99 (k_step g n 17 (k_ru g n R).2)))).1, q.2.2.2.1, k_nu g n (k_ru g n (k_step g n 16 (k_nr g n 0 99 (k_step g n 17 (k_ru g n R).2)))).2.1 1 5, q.2.2.2.2.2.1, sg * nI (k_nu g n (k_step g n 17 (k_ru g n R).2).1 0 99))) = H at hA hF ⊢
    refine m_J_run hM 1 rfl ⟨trivial, trivial⟩ ?_
    exact m_J_vret hM rfl rfl (Nat.le_refl _) (Nat.le_refl _) ⟨rfl, rfl, hA, hF⟩
  have hc2 := k_z0 hc
  rw [if_neg (by rw [hc2]; decide)]
  clear hc hc2
  refine m_J_run hM 1 rfl ⟨trivial, trivial⟩ ?_
  refine m_J_ldcS (si := 18) hM rfl rfl ?_
  refine m_callV (as := [.ref (1000001 + 18)]) (rest := []) (m_EX_warm E N xs) hM rfl kw_X3_53 rfl rfl (hA.1.1) ⟨_, rfl, rfl⟩ (t_sw (R := (k_step g n 16 (k_nr g n 0 99 (k_step g n 17 (k_ru g n R).2)))) (by decide) hA.2.2.1 hA.1) rfl (Nat.le_of_ble_eq_true rfl) (Nat.le_of_ble_eq_true rfl) (Nat.le_of_ble_eq_true rfl) (fun ht => ⟨ht, by simp⟩) ?_
  replace hA := k_RL_z (R' := k_step g n 18 (k_step g n 16 (k_nr g n 0 99 (k_step g n 17 (k_ru g n R).2)))) hA (k_step_le hA.2.2.1)
  replace hF := k_fr_s (k := z) (c := k_rd tp (k_step g n 18 (k_step g n 16 (k_nr g n 0 99 (k_step g n 17 (k_ru g n R).2)))).1 (k_step g n 18 (k_step g n 16 (k_nr g n 0 99 (k_step g n 17 (k_ru g n R).2)))).2) hF (by simp)
  show m_J _ _ _ _ _ _ _ _ _ _ _ _ (_, _, _, H.set z (k_rd tp (k_step g n 18 (k_step g n 16 (k_nr g n 0 99 (k_step g n 17 (k_ru g n R).2)))).1 (k_step g n 18 (k_step g n 16 (k_nr g n 0 99 (k_step g n 17 (k_ru g n R).2)))).2))
  generalize H.set z (k_rd tp (k_step g n 18 (k_step g n 16 (k_nr g n 0 99 (k_step g n 17 (k_ru g n R).2)))).1 (k_step g n 18 (k_step g n 16 (k_nr g n 0 99 (k_step g n 17 (k_ru g n R).2)))).2) = H at hA hF ⊢
  refine m_J_run hM 1 rfl ⟨trivial, trivial⟩ ?_
  refine m_J_if (fun hc => ?_) (fun hc => ?_)
  case refine_2 =>
    have hc2 := k_z1 hc
    rw [if_pos hc2]
    refine m_J_run hM 2 rfl ⟨trivial, trivial, trivial⟩ ?_
    refine m_J_putf hM rfl rfl (hA.2.1) (rfl) ?_
    replace hA := k_RL_c (q' := (1, (k_ru g n R).1, q.2.2.1, q.2.2.2.1, q.2.2.2.2.1, q.2.2.2.2.2.1, sg * nI (k_nu g n (k_step g n 17 (k_ru g n R).2).1 0 99))) hA (⟨by simp, hA.2.2.2.2.1, hA.2.2.2.2.2.1, hA.2.2.2.2.2.2.1, hA.2.2.2.2.2.2.2.1, hA.2.2.2.2.2.2.2.2.1, fun h => absurd h (by simp)⟩)
    replace hF := k_fr_s (k := c) (c := k_ln (1, (k_ru g n R).1, q.2.2.1, q.2.2.2.1, q.2.2.2.2.1, q.2.2.2.2.2.1, sg * nI (k_nu g n (k_step g n 17 (k_ru g n R).2).1 0 99))) hF (by simp)
    show m_J _ _ _ _ _ _ _ _ _ _ _ _ (_, _, _, H.set c (k_ln (1, (k_ru g n R).1, q.2.2.1, q.2.2.2.1, q.2.2.2.2.1, q.2.2.2.2.2.1, sg * nI (k_nu g n (k_step g n 17 (k_ru g n R).2).1 0 99))))
    generalize H.set c (k_ln (1, (k_ru g n R).1, q.2.2.1, q.2.2.2.1, q.2.2.2.2.1, q.2.2.2.2.2.1, sg * nI (k_nu g n (k_step g n 17 (k_ru g n R).2).1 0 99))) = H at hA hF ⊢
    refine m_J_run hM 4 rfl ⟨trivial, trivial, trivial, trivial, trivial⟩ ?_
    have hnu := k_nu_ok (g := g) (n := n) (p := (k_step g n 18 (k_step g n 16 (k_nr g n 0 99 (k_step g n 17 (k_ru g n R).2)))).1) (lo := 0) (hi := 9) (by omega) (by omega)
    refine m_callV (as := [.int (nI 0), .int (nI 9)]) (rest := [.ref c]) (m_EX_warm E N xs) hM rfl kw_X3_79 rfl rfl (hA.1.1) ⟨_, rfl, rfl⟩ (t_num (R := (k_step g n 18 (k_step g n 16 (k_nr g n 0 99 (k_step g n 17 (k_ru g n R).2))))) (by omega) (by omega) hA.2.2.1 hA.1) rfl (Nat.le_of_ble_eq_true rfl) (Nat.le_of_ble_eq_true rfl) (Nat.le_of_ble_eq_true rfl) (fun ht => ⟨ht, by simp⟩) ?_
    replace hA := k_RL_z (R' := k_nr g n 0 9 (k_step g n 18 (k_step g n 16 (k_nr g n 0 99 (k_step g n 17 (k_ru g n R).2))))) hA (k_nr_le hA.2.2.1)
    replace hF := k_fr_s (k := z) (c := k_rd tp (k_nr g n 0 9 (k_step g n 18 (k_step g n 16 (k_nr g n 0 99 (k_step g n 17 (k_ru g n R).2))))).1 (k_nr g n 0 9 (k_step g n 18 (k_step g n 16 (k_nr g n 0 99 (k_step g n 17 (k_ru g n R).2))))).2) hF (by simp)
    show m_J _ _ _ _ _ _ _ _ _ _ _ _ (_, _, _, H.set z (k_rd tp (k_nr g n 0 9 (k_step g n 18 (k_step g n 16 (k_nr g n 0 99 (k_step g n 17 (k_ru g n R).2))))).1 (k_nr g n 0 9 (k_step g n 18 (k_step g n 16 (k_nr g n 0 99 (k_step g n 17 (k_ru g n R).2))))).2))
    generalize H.set z (k_rd tp (k_nr g n 0 9 (k_step g n 18 (k_step g n 16 (k_nr g n 0 99 (k_step g n 17 (k_ru g n R).2))))).1 (k_nr g n 0 9 (k_step g n 18 (k_step g n 16 (k_nr g n 0 99 (k_step g n 17 (k_ru g n R).2))))).2) = H at hA hF ⊢
    refine m_J_putf hM rfl rfl (hA.2.1) (rfl) ?_
    replace hA := k_RL_c (q' := (1, (k_ru g n R).1, q.2.2.1, q.2.2.2.1, q.2.2.2.2.1, k_nu g n (k_step g n 18 (k_step g n 16 (k_nr g n 0 99 (k_step g n 17 (k_ru g n R).2)))).1 0 9, sg * nI (k_nu g n (k_step g n 17 (k_ru g n R).2).1 0 99))) hA (⟨hA.2.2.2.1, hA.2.2.2.2.1, hA.2.2.2.2.2.1, hA.2.2.2.2.2.2.1, hA.2.2.2.2.2.2.2.1, hnu.2.1, hA.2.2.2.2.2.2.2.2.2⟩)
    replace hF := k_fr_s (k := c) (c := k_ln (1, (k_ru g n R).1, q.2.2.1, q.2.2.2.1, q.2.2.2.2.1, k_nu g n (k_step g n 18 (k_step g n 16 (k_nr g n 0 99 (k_step g n 17 (k_ru g n R).2)))).1 0 9, sg * nI (k_nu g n (k_step g n 17 (k_ru g n R).2).1 0 99))) hF (by simp)
    show m_J _ _ _ _ _ _ _ _ _ _ _ _ (_, _, _, H.set c (k_ln (1, (k_ru g n R).1, q.2.2.1, q.2.2.2.1, q.2.2.2.2.1, k_nu g n (k_step g n 18 (k_step g n 16 (k_nr g n 0 99 (k_step g n 17 (k_ru g n R).2)))).1 0 9, sg * nI (k_nu g n (k_step g n 17 (k_ru g n R).2).1 0 99))))
    generalize H.set c (k_ln (1, (k_ru g n R).1, q.2.2.1, q.2.2.2.1, q.2.2.2.2.1, k_nu g n (k_step g n 18 (k_step g n 16 (k_nr g n 0 99 (k_step g n 17 (k_ru g n R).2)))).1 0 9, sg * nI (k_nu g n (k_step g n 17 (k_ru g n R).2).1 0 99))) = H at hA hF ⊢
    refine m_J_run hM 1 rfl ⟨trivial, trivial⟩ ?_
    exact m_J_vret hM rfl rfl (Nat.le_refl _) (Nat.le_refl _) ⟨rfl, rfl, hA, hF⟩
  have hc2 := k_z0 hc
  rw [if_neg (by rw [hc2]; decide)]
  clear hc hc2
  refine m_J_run hM 1 rfl ⟨trivial, trivial⟩ ?_
  refine m_callV (as := []) (rest := []) (m_EX_warm E N xs) hM rfl kw_X3_48 rfl rfl (hA.1.1) ⟨_, rfl, rfl⟩ (t_ref hA.1) rfl (Nat.le_of_ble_eq_true rfl) (Nat.le_of_ble_eq_true rfl) (Nat.le_of_ble_eq_true rfl) (fun ht => ⟨ht, by simp⟩) ?_
  replace hA := k_RL_z (R' := k_refuse (k_step g n 18 (k_step g n 16 (k_nr g n 0 99 (k_step g n 17 (k_ru g n R).2))))) hA hA.2.2.1
  replace hF := k_fr_s (k := z) (c := k_rd tp (k_refuse (k_step g n 18 (k_step g n 16 (k_nr g n 0 99 (k_step g n 17 (k_ru g n R).2))))).1 (k_refuse (k_step g n 18 (k_step g n 16 (k_nr g n 0 99 (k_step g n 17 (k_ru g n R).2))))).2) hF (by simp)
  show m_J _ _ _ _ _ _ _ _ _ _ _ _ (_, _, _, H.set z (k_rd tp (k_refuse (k_step g n 18 (k_step g n 16 (k_nr g n 0 99 (k_step g n 17 (k_ru g n R).2))))).1 (k_refuse (k_step g n 18 (k_step g n 16 (k_nr g n 0 99 (k_step g n 17 (k_ru g n R).2))))).2))
  generalize H.set z (k_rd tp (k_refuse (k_step g n 18 (k_step g n 16 (k_nr g n 0 99 (k_step g n 17 (k_ru g n R).2))))).1 (k_refuse (k_step g n 18 (k_step g n 16 (k_nr g n 0 99 (k_step g n 17 (k_ru g n R).2))))).2) = H at hA hF ⊢
  exact m_J_vret hM rfl rfl (Nat.le_refl _) (Nat.le_refl _) ⟨rfl, rfl, hA, hF⟩
set_option maxHeartbeats 2000000 in
theorem t_grow (hA : k_RL h z tp tb n g c R q) : m_Sp l (m_EX E N xs) E mM_X3_readGrow (d + 6) 0 0 [.ref z, .ref c] h tg (fun v H tg' => v = none ∧ tg' = tg ∧ k_RL H z tp tb n g c (k_rgrow g n q R).2 (k_rgrow g n q R).1 ∧ k_fr [z, c] h H) m_no := by
  have hM := mM_X3_readGrow_ok
  unfold k_rgrow
  dsimp only
  refine m_Sp_of (by decide) (Nat.le_of_ble_eq_true rfl) ?_
  obtain ⟨H, hH⟩ : ∃ H, H = h := ⟨h, rfl⟩
  have hF : k_fr [z, c] h H := by rw [hH]; exact k_fr_r _ h
  rw [← hH] at hA
  rw [show (0, m_ent [Value.ref z, Value.ref c] mM_X3_readGrow.2.2.1, ([] : List Value), h) = (0, m_ent [Value.ref z, Value.ref c] mM_X3_readGrow.2.2.1, [], H) by rw [hH]]
  clear hH
  have hu := (k_ru_le (g := g) hA.2.2.1).2
  refine m_J_run hM 2 rfl ⟨trivial, trivial, trivial⟩ ?_
  refine m_J_putf hM rfl rfl (hA.2.1) (rfl) ?_
  replace hA := k_RL_c (q' := (6, q.2)) hA (⟨by simp, hA.2.2.2.2.1, hA.2.2.2.2.2.1, hA.2.2.2.2.2.2.1, hA.2.2.2.2.2.2.2.1, hA.2.2.2.2.2.2.2.2.1, fun h => absurd h (by simp)⟩)
  replace hF := k_fr_s (k := c) (c := k_ln (6, q.2)) hF (by simp)
  show m_J _ _ _ _ _ _ _ _ _ _ _ _ (_, _, _, H.set c (k_ln (6, q.2)))
  generalize H.set c (k_ln (6, q.2)) = H at hA hF ⊢
  refine m_J_run hM 2 rfl ⟨trivial, trivial, trivial⟩ ?_
  refine m_callV (as := []) (rest := [.ref c]) (m_EX_warm E N xs) hM rfl kw_X3_68 rfl rfl (hA.1.1) ⟨_, rfl, rfl⟩ (t_use (R := R) hA.2.2.1 hA.1) rfl (Nat.le_of_ble_eq_true rfl) (Nat.le_of_ble_eq_true rfl) (Nat.le_of_ble_eq_true rfl) (fun ht => ⟨ht, by simp⟩) ?_
  replace hA := k_RL_z (R' := (k_ru g n R).2) hA (k_ru_le hA.2.2.1).1
  replace hF := k_fr_s (k := z) (c := k_rd tp (k_ru g n R).2.1 (k_ru g n R).2.2) hF (by simp)
  show m_J _ _ _ _ _ _ _ _ _ _ _ _ (_, _, _, H.set z (k_rd tp (k_ru g n R).2.1 (k_ru g n R).2.2))
  generalize H.set z (k_rd tp (k_ru g n R).2.1 (k_ru g n R).2.2) = H at hA hF ⊢
  refine m_J_putf hM rfl rfl (hA.2.1) (rfl) ?_
  replace hA := k_RL_c (q' := (6, (k_ru g n R).1, q.2.2)) hA (⟨hA.2.2.2.1, hu, hA.2.2.2.2.2.1, hA.2.2.2.2.2.2.1, hA.2.2.2.2.2.2.2.1, hA.2.2.2.2.2.2.2.2.1, hA.2.2.2.2.2.2.2.2.2⟩)
  replace hF := k_fr_s (k := c) (c := k_ln (6, (k_ru g n R).1, q.2.2)) hF (by simp)
  show m_J _ _ _ _ _ _ _ _ _ _ _ _ (_, _, _, H.set c (k_ln (6, (k_ru g n R).1, q.2.2)))
  generalize H.set c (k_ln (6, (k_ru g n R).1, q.2.2)) = H at hA hF ⊢
  refine m_J_run hM 1 rfl ⟨trivial, trivial⟩ ?_
  refine m_J_ldcS (si := 14) hM rfl rfl ?_
  refine m_callV (as := [.ref (1000001 + 14)]) (rest := []) (m_EX_warm E N xs) hM rfl kw_X3_112 rfl rfl (hA.1.1) ⟨_, rfl, rfl⟩ (t_word (R := (k_ru g n R).2) (by decide) hA.2.2.1 hA.1) rfl (Nat.le_of_ble_eq_true rfl) (Nat.le_of_ble_eq_true rfl) (Nat.le_of_ble_eq_true rfl) (fun ht => ⟨ht, by simp⟩) ?_
  replace hA := k_RL_z (R' := k_rw g n 14 (k_ru g n R).2) hA (k_rw_le hA.2.2.1)
  replace hF := k_fr_s (k := z) (c := k_rd tp (k_rw g n 14 (k_ru g n R).2).1 (k_rw g n 14 (k_ru g n R).2).2) hF (by simp)
  show m_J _ _ _ _ _ _ _ _ _ _ _ _ (_, _, _, H.set z (k_rd tp (k_rw g n 14 (k_ru g n R).2).1 (k_rw g n 14 (k_ru g n R).2).2))
  generalize H.set z (k_rd tp (k_rw g n 14 (k_ru g n R).2).1 (k_rw g n 14 (k_ru g n R).2).2) = H at hA hF ⊢
  have hv := (k_ru_le (g := g) hA.2.2.1).2
  refine m_J_run hM 2 rfl ⟨trivial, trivial, trivial⟩ ?_
  refine m_callV (as := []) (rest := [.ref c]) (m_EX_warm E N xs) hM rfl kw_X3_68 rfl rfl (hA.1.1) ⟨_, rfl, rfl⟩ (t_use (R := (k_rw g n 14 (k_ru g n R).2)) hA.2.2.1 hA.1) rfl (Nat.le_of_ble_eq_true rfl) (Nat.le_of_ble_eq_true rfl) (Nat.le_of_ble_eq_true rfl) (fun ht => ⟨ht, by simp⟩) ?_
  replace hA := k_RL_z (R' := (k_ru g n (k_rw g n 14 (k_ru g n R).2)).2) hA (k_ru_le hA.2.2.1).1
  replace hF := k_fr_s (k := z) (c := k_rd tp (k_ru g n (k_rw g n 14 (k_ru g n R).2)).2.1 (k_ru g n (k_rw g n 14 (k_ru g n R).2)).2.2) hF (by simp)
  show m_J _ _ _ _ _ _ _ _ _ _ _ _ (_, _, _, H.set z (k_rd tp (k_ru g n (k_rw g n 14 (k_ru g n R).2)).2.1 (k_ru g n (k_rw g n 14 (k_ru g n R).2)).2.2))
  generalize H.set z (k_rd tp (k_ru g n (k_rw g n 14 (k_ru g n R).2)).2.1 (k_ru g n (k_rw g n 14 (k_ru g n R).2)).2.2) = H at hA hF ⊢
  refine m_J_putf hM rfl rfl (hA.2.1) (rfl) ?_
  replace hA := k_RL_c (q' := (6, (k_ru g n R).1, q.2.2.1, (k_ru g n (k_rw g n 14 (k_ru g n R).2)).1, q.2.2.2.2)) hA (⟨hA.2.2.2.1, hA.2.2.2.2.1, hA.2.2.2.2.2.1, hv, hA.2.2.2.2.2.2.2.1, hA.2.2.2.2.2.2.2.2.1, hA.2.2.2.2.2.2.2.2.2⟩)
  replace hF := k_fr_s (k := c) (c := k_ln (6, (k_ru g n R).1, q.2.2.1, (k_ru g n (k_rw g n 14 (k_ru g n R).2)).1, q.2.2.2.2)) hF (by simp)
  show m_J _ _ _ _ _ _ _ _ _ _ _ _ (_, _, _, H.set c (k_ln (6, (k_ru g n R).1, q.2.2.1, (k_ru g n (k_rw g n 14 (k_ru g n R).2)).1, q.2.2.2.2)))
  generalize H.set c (k_ln (6, (k_ru g n R).1, q.2.2.1, (k_ru g n (k_rw g n 14 (k_ru g n R).2)).1, q.2.2.2.2)) = H at hA hF ⊢
  refine m_J_run hM 1 rfl ⟨trivial, trivial⟩ ?_
  refine m_J_ldcS (si := 15) hM rfl rfl ?_
  refine m_callV (as := [.ref (1000001 + 15)]) (rest := []) (m_EX_warm E N xs) hM rfl kw_X3_112 rfl rfl (hA.1.1) ⟨_, rfl, rfl⟩ (t_word (R := (k_ru g n (k_rw g n 14 (k_ru g n R).2)).2) (by decide) hA.2.2.1 hA.1) rfl (Nat.le_of_ble_eq_true rfl) (Nat.le_of_ble_eq_true rfl) (Nat.le_of_ble_eq_true rfl) (fun ht => ⟨ht, by simp⟩) ?_
  replace hA := k_RL_z (R' := k_rw g n 15 (k_ru g n (k_rw g n 14 (k_ru g n R).2)).2) hA (k_rw_le hA.2.2.1)
  replace hF := k_fr_s (k := z) (c := k_rd tp (k_rw g n 15 (k_ru g n (k_rw g n 14 (k_ru g n R).2)).2).1 (k_rw g n 15 (k_ru g n (k_rw g n 14 (k_ru g n R).2)).2).2) hF (by simp)
  show m_J _ _ _ _ _ _ _ _ _ _ _ _ (_, _, _, H.set z (k_rd tp (k_rw g n 15 (k_ru g n (k_rw g n 14 (k_ru g n R).2)).2).1 (k_rw g n 15 (k_ru g n (k_rw g n 14 (k_ru g n R).2)).2).2))
  generalize H.set z (k_rd tp (k_rw g n 15 (k_ru g n (k_rw g n 14 (k_ru g n R).2)).2).1 (k_rw g n 15 (k_ru g n (k_rw g n 14 (k_ru g n R).2)).2).2) = H at hA hF ⊢
  have hw := (k_ru_le (g := g) hA.2.2.1).2
  refine m_J_run hM 2 rfl ⟨trivial, trivial, trivial⟩ ?_
  refine m_callV (as := []) (rest := [.ref c]) (m_EX_warm E N xs) hM rfl kw_X3_68 rfl rfl (hA.1.1) ⟨_, rfl, rfl⟩ (t_use (R := (k_rw g n 15 (k_ru g n (k_rw g n 14 (k_ru g n R).2)).2)) hA.2.2.1 hA.1) rfl (Nat.le_of_ble_eq_true rfl) (Nat.le_of_ble_eq_true rfl) (Nat.le_of_ble_eq_true rfl) (fun ht => ⟨ht, by simp⟩) ?_
  replace hA := k_RL_z (R' := (k_ru g n (k_rw g n 15 (k_ru g n (k_rw g n 14 (k_ru g n R).2)).2)).2) hA (k_ru_le hA.2.2.1).1
  replace hF := k_fr_s (k := z) (c := k_rd tp (k_ru g n (k_rw g n 15 (k_ru g n (k_rw g n 14 (k_ru g n R).2)).2)).2.1 (k_ru g n (k_rw g n 15 (k_ru g n (k_rw g n 14 (k_ru g n R).2)).2)).2.2) hF (by simp)
  show m_J _ _ _ _ _ _ _ _ _ _ _ _ (_, _, _, H.set z (k_rd tp (k_ru g n (k_rw g n 15 (k_ru g n (k_rw g n 14 (k_ru g n R).2)).2)).2.1 (k_ru g n (k_rw g n 15 (k_ru g n (k_rw g n 14 (k_ru g n R).2)).2)).2.2))
  generalize H.set z (k_rd tp (k_ru g n (k_rw g n 15 (k_ru g n (k_rw g n 14 (k_ru g n R).2)).2)).2.1 (k_ru g n (k_rw g n 15 (k_ru g n (k_rw g n 14 (k_ru g n R).2)).2)).2.2) = H at hA hF ⊢
  refine m_J_putf hM rfl rfl (hA.2.1) (rfl) ?_
  replace hA := k_RL_c (q' := (6, (k_ru g n R).1, (k_ru g n (k_rw g n 15 (k_ru g n (k_rw g n 14 (k_ru g n R).2)).2)).1, (k_ru g n (k_rw g n 14 (k_ru g n R).2)).1, q.2.2.2.2)) hA (⟨hA.2.2.2.1, hA.2.2.2.2.1, hw, hA.2.2.2.2.2.2.1, hA.2.2.2.2.2.2.2.1, hA.2.2.2.2.2.2.2.2.1, hA.2.2.2.2.2.2.2.2.2⟩)
  replace hF := k_fr_s (k := c) (c := k_ln (6, (k_ru g n R).1, (k_ru g n (k_rw g n 15 (k_ru g n (k_rw g n 14 (k_ru g n R).2)).2)).1, (k_ru g n (k_rw g n 14 (k_ru g n R).2)).1, q.2.2.2.2)) hF (by simp)
  show m_J _ _ _ _ _ _ _ _ _ _ _ _ (_, _, _, H.set c (k_ln (6, (k_ru g n R).1, (k_ru g n (k_rw g n 15 (k_ru g n (k_rw g n 14 (k_ru g n R).2)).2)).1, (k_ru g n (k_rw g n 14 (k_ru g n R).2)).1, q.2.2.2.2)))
  generalize H.set c (k_ln (6, (k_ru g n R).1, (k_ru g n (k_rw g n 15 (k_ru g n (k_rw g n 14 (k_ru g n R).2)).2)).1, (k_ru g n (k_rw g n 14 (k_ru g n R).2)).1, q.2.2.2.2)) = H at hA hF ⊢
  refine m_J_run hM 1 rfl ⟨trivial, trivial⟩ ?_
  refine m_J_ldcS (si := 16) hM rfl rfl ?_
  refine m_callV (as := [.ref (1000001 + 16)]) (rest := []) (m_EX_warm E N xs) hM rfl kw_X3_112 rfl rfl (hA.1.1) ⟨_, rfl, rfl⟩ (t_word (R := (k_ru g n (k_rw g n 15 (k_ru g n (k_rw g n 14 (k_ru g n R).2)).2)).2) (by decide) hA.2.2.1 hA.1) rfl (Nat.le_of_ble_eq_true rfl) (Nat.le_of_ble_eq_true rfl) (Nat.le_of_ble_eq_true rfl) (fun ht => ⟨ht, by simp⟩) ?_
  replace hA := k_RL_z (R' := k_rw g n 16 (k_ru g n (k_rw g n 15 (k_ru g n (k_rw g n 14 (k_ru g n R).2)).2)).2) hA (k_rw_le hA.2.2.1)
  replace hF := k_fr_s (k := z) (c := k_rd tp (k_rw g n 16 (k_ru g n (k_rw g n 15 (k_ru g n (k_rw g n 14 (k_ru g n R).2)).2)).2).1 (k_rw g n 16 (k_ru g n (k_rw g n 15 (k_ru g n (k_rw g n 14 (k_ru g n R).2)).2)).2).2) hF (by simp)
  show m_J _ _ _ _ _ _ _ _ _ _ _ _ (_, _, _, H.set z (k_rd tp (k_rw g n 16 (k_ru g n (k_rw g n 15 (k_ru g n (k_rw g n 14 (k_ru g n R).2)).2)).2).1 (k_rw g n 16 (k_ru g n (k_rw g n 15 (k_ru g n (k_rw g n 14 (k_ru g n R).2)).2)).2).2))
  generalize H.set z (k_rd tp (k_rw g n 16 (k_ru g n (k_rw g n 15 (k_ru g n (k_rw g n 14 (k_ru g n R).2)).2)).2).1 (k_rw g n 16 (k_ru g n (k_rw g n 15 (k_ru g n (k_rw g n 14 (k_ru g n R).2)).2)).2).2) = H at hA hF ⊢
  refine m_J_run hM 4 rfl ⟨trivial, trivial, trivial, trivial, trivial⟩ ?_
  have hnu := k_nu_ok (g := g) (n := n) (p := (k_rw g n 16 (k_ru g n (k_rw g n 15 (k_ru g n (k_rw g n 14 (k_ru g n R).2)).2)).2).1) (lo := 1) (hi := 5) (by omega) (by omega)
  refine m_callV (as := [.int (nI 1), .int (nI 5)]) (rest := [.ref c]) (m_EX_warm E N xs) hM rfl kw_X3_79 rfl rfl (hA.1.1) ⟨_, rfl, rfl⟩ (t_num (R := (k_rw g n 16 (k_ru g n (k_rw g n 15 (k_ru g n (k_rw g n 14 (k_ru g n R).2)).2)).2)) (by omega) (by omega) hA.2.2.1 hA.1) rfl (Nat.le_of_ble_eq_true rfl) (Nat.le_of_ble_eq_true rfl) (Nat.le_of_ble_eq_true rfl) (fun ht => ⟨ht, by simp⟩) ?_
  replace hA := k_RL_z (R' := k_nr g n 1 5 (k_rw g n 16 (k_ru g n (k_rw g n 15 (k_ru g n (k_rw g n 14 (k_ru g n R).2)).2)).2)) hA (k_nr_le hA.2.2.1)
  replace hF := k_fr_s (k := z) (c := k_rd tp (k_nr g n 1 5 (k_rw g n 16 (k_ru g n (k_rw g n 15 (k_ru g n (k_rw g n 14 (k_ru g n R).2)).2)).2)).1 (k_nr g n 1 5 (k_rw g n 16 (k_ru g n (k_rw g n 15 (k_ru g n (k_rw g n 14 (k_ru g n R).2)).2)).2)).2) hF (by simp)
  show m_J _ _ _ _ _ _ _ _ _ _ _ _ (_, _, _, H.set z (k_rd tp (k_nr g n 1 5 (k_rw g n 16 (k_ru g n (k_rw g n 15 (k_ru g n (k_rw g n 14 (k_ru g n R).2)).2)).2)).1 (k_nr g n 1 5 (k_rw g n 16 (k_ru g n (k_rw g n 15 (k_ru g n (k_rw g n 14 (k_ru g n R).2)).2)).2)).2))
  generalize H.set z (k_rd tp (k_nr g n 1 5 (k_rw g n 16 (k_ru g n (k_rw g n 15 (k_ru g n (k_rw g n 14 (k_ru g n R).2)).2)).2)).1 (k_nr g n 1 5 (k_rw g n 16 (k_ru g n (k_rw g n 15 (k_ru g n (k_rw g n 14 (k_ru g n R).2)).2)).2)).2) = H at hA hF ⊢
  refine m_J_putf hM rfl rfl (hA.2.1) (rfl) ?_
  replace hA := k_RL_c (q' := (6, (k_ru g n R).1, (k_ru g n (k_rw g n 15 (k_ru g n (k_rw g n 14 (k_ru g n R).2)).2)).1, (k_ru g n (k_rw g n 14 (k_ru g n R).2)).1, k_nu g n (k_rw g n 16 (k_ru g n (k_rw g n 15 (k_ru g n (k_rw g n 14 (k_ru g n R).2)).2)).2).1 1 5, q.2.2.2.2.2)) hA (⟨hA.2.2.2.1, hA.2.2.2.2.1, hA.2.2.2.2.2.1, hA.2.2.2.2.2.2.1, hnu.2.1, hA.2.2.2.2.2.2.2.2.1, fun h => absurd h (by simp)⟩)
  replace hF := k_fr_s (k := c) (c := k_ln (6, (k_ru g n R).1, (k_ru g n (k_rw g n 15 (k_ru g n (k_rw g n 14 (k_ru g n R).2)).2)).1, (k_ru g n (k_rw g n 14 (k_ru g n R).2)).1, k_nu g n (k_rw g n 16 (k_ru g n (k_rw g n 15 (k_ru g n (k_rw g n 14 (k_ru g n R).2)).2)).2).1 1 5, q.2.2.2.2.2)) hF (by simp)
  show m_J _ _ _ _ _ _ _ _ _ _ _ _ (_, _, _, H.set c (k_ln (6, (k_ru g n R).1, (k_ru g n (k_rw g n 15 (k_ru g n (k_rw g n 14 (k_ru g n R).2)).2)).1, (k_ru g n (k_rw g n 14 (k_ru g n R).2)).1, k_nu g n (k_rw g n 16 (k_ru g n (k_rw g n 15 (k_ru g n (k_rw g n 14 (k_ru g n R).2)).2)).2).1 1 5, q.2.2.2.2.2)))
  generalize H.set c (k_ln (6, (k_ru g n R).1, (k_ru g n (k_rw g n 15 (k_ru g n (k_rw g n 14 (k_ru g n R).2)).2)).1, (k_ru g n (k_rw g n 14 (k_ru g n R).2)).1, k_nu g n (k_rw g n 16 (k_ru g n (k_rw g n 15 (k_ru g n (k_rw g n 14 (k_ru g n R).2)).2)).2).1 1 5, q.2.2.2.2.2)) = H at hA hF ⊢
  refine m_J_run hM 4 rfl ⟨trivial, trivial, trivial, trivial, trivial⟩ ?_
  refine m_callV (as := [.int (nI 1), .int (nI 60)]) (rest := [.ref c]) (m_EX_warm E N xs) hM rfl kw_X3_79 rfl rfl (hA.1.1) ⟨_, rfl, rfl⟩ (t_num (R := (k_nr g n 1 5 (k_rw g n 16 (k_ru g n (k_rw g n 15 (k_ru g n (k_rw g n 14 (k_ru g n R).2)).2)).2))) (by omega) (by omega) hA.2.2.1 hA.1) rfl (Nat.le_of_ble_eq_true rfl) (Nat.le_of_ble_eq_true rfl) (Nat.le_of_ble_eq_true rfl) (fun ht => ⟨ht, by simp⟩) ?_
  replace hA := k_RL_z (R' := k_nr g n 1 60 (k_nr g n 1 5 (k_rw g n 16 (k_ru g n (k_rw g n 15 (k_ru g n (k_rw g n 14 (k_ru g n R).2)).2)).2))) hA (k_nr_le hA.2.2.1)
  replace hF := k_fr_s (k := z) (c := k_rd tp (k_nr g n 1 60 (k_nr g n 1 5 (k_rw g n 16 (k_ru g n (k_rw g n 15 (k_ru g n (k_rw g n 14 (k_ru g n R).2)).2)).2))).1 (k_nr g n 1 60 (k_nr g n 1 5 (k_rw g n 16 (k_ru g n (k_rw g n 15 (k_ru g n (k_rw g n 14 (k_ru g n R).2)).2)).2))).2) hF (by simp)
  show m_J _ _ _ _ _ _ _ _ _ _ _ _ (_, _, _, H.set z (k_rd tp (k_nr g n 1 60 (k_nr g n 1 5 (k_rw g n 16 (k_ru g n (k_rw g n 15 (k_ru g n (k_rw g n 14 (k_ru g n R).2)).2)).2))).1 (k_nr g n 1 60 (k_nr g n 1 5 (k_rw g n 16 (k_ru g n (k_rw g n 15 (k_ru g n (k_rw g n 14 (k_ru g n R).2)).2)).2))).2))
  generalize H.set z (k_rd tp (k_nr g n 1 60 (k_nr g n 1 5 (k_rw g n 16 (k_ru g n (k_rw g n 15 (k_ru g n (k_rw g n 14 (k_ru g n R).2)).2)).2))).1 (k_nr g n 1 60 (k_nr g n 1 5 (k_rw g n 16 (k_ru g n (k_rw g n 15 (k_ru g n (k_rw g n 14 (k_ru g n R).2)).2)).2))).2) = H at hA hF ⊢
  refine m_J_putf hM rfl rfl (hA.2.1) (rfl) ?_
  replace hA := k_RL_c (q' := (6, (k_ru g n R).1, (k_ru g n (k_rw g n 15 (k_ru g n (k_rw g n 14 (k_ru g n R).2)).2)).1, (k_ru g n (k_rw g n 14 (k_ru g n R).2)).1, k_nu g n (k_rw g n 16 (k_ru g n (k_rw g n 15 (k_ru g n (k_rw g n 14 (k_ru g n R).2)).2)).2).1 1 5, q.2.2.2.2.2.1, nI (k_nu g n (k_nr g n 1 5 (k_rw g n 16 (k_ru g n (k_rw g n 15 (k_ru g n (k_rw g n 14 (k_ru g n R).2)).2)).2)).1 1 60))) hA (⟨hA.2.2.2.1, hA.2.2.2.2.1, hA.2.2.2.2.2.1, hA.2.2.2.2.2.2.1, hA.2.2.2.2.2.2.2.1, hA.2.2.2.2.2.2.2.2.1, hA.2.2.2.2.2.2.2.2.2⟩)
  replace hF := k_fr_s (k := c) (c := k_ln (6, (k_ru g n R).1, (k_ru g n (k_rw g n 15 (k_ru g n (k_rw g n 14 (k_ru g n R).2)).2)).1, (k_ru g n (k_rw g n 14 (k_ru g n R).2)).1, k_nu g n (k_rw g n 16 (k_ru g n (k_rw g n 15 (k_ru g n (k_rw g n 14 (k_ru g n R).2)).2)).2).1 1 5, q.2.2.2.2.2.1, nI (k_nu g n (k_nr g n 1 5 (k_rw g n 16 (k_ru g n (k_rw g n 15 (k_ru g n (k_rw g n 14 (k_ru g n R).2)).2)).2)).1 1 60))) hF (by simp)
  show m_J _ _ _ _ _ _ _ _ _ _ _ _ (_, _, _, H.set c (k_ln (6, (k_ru g n R).1, (k_ru g n (k_rw g n 15 (k_ru g n (k_rw g n 14 (k_ru g n R).2)).2)).1, (k_ru g n (k_rw g n 14 (k_ru g n R).2)).1, k_nu g n (k_rw g n 16 (k_ru g n (k_rw g n 15 (k_ru g n (k_rw g n 14 (k_ru g n R).2)).2)).2).1 1 5, q.2.2.2.2.2.1, nI (k_nu g n (k_nr g n 1 5 (k_rw g n 16 (k_ru g n (k_rw g n 15 (k_ru g n (k_rw g n 14 (k_ru g n R).2)).2)).2)).1 1 60))))
  generalize H.set c (k_ln (6, (k_ru g n R).1, (k_ru g n (k_rw g n 15 (k_ru g n (k_rw g n 14 (k_ru g n R).2)).2)).1, (k_ru g n (k_rw g n 14 (k_ru g n R).2)).1, k_nu g n (k_rw g n 16 (k_ru g n (k_rw g n 15 (k_ru g n (k_rw g n 14 (k_ru g n R).2)).2)).2).1 1 5, q.2.2.2.2.2.1, nI (k_nu g n (k_nr g n 1 5 (k_rw g n 16 (k_ru g n (k_rw g n 15 (k_ru g n (k_rw g n 14 (k_ru g n R).2)).2)).2)).1 1 60))) = H at hA hF ⊢
  exact m_J_vret hM rfl rfl (Nat.le_refl _) (Nat.le_refl _) ⟨rfl, rfl, hA, hF⟩
set_option maxHeartbeats 2000000 in
theorem t_line (hA : k_RL h z tp tb n g c R q) : m_Sp l (m_EX E N xs) E mM_X3_readLine (d + 7) 0 0 [.ref z, .ref c] h tg (fun v H tg' => v = none ∧ tg' = tg ∧ k_RL H z tp tb n g c (k_rline g n q R).2 (k_rline g n q R).1 ∧ k_fr [z, c] h H) m_no := by
  have hM := mM_X3_readLine_ok
  unfold k_rline
  dsimp only
  refine m_Sp_of (by decide) (Nat.le_of_ble_eq_true rfl) ?_
  obtain ⟨H, hH⟩ : ∃ H, H = h := ⟨h, rfl⟩
  have hF : k_fr [z, c] h H := by rw [hH]; exact k_fr_r _ h
  rw [← hH] at hA
  rw [show (0, m_ent [Value.ref z, Value.ref c] mM_X3_readLine.2.2.1, ([] : List Value), h) = (0, m_ent [Value.ref z, Value.ref c] mM_X3_readLine.2.2.1, [], H) by rw [hH]]
  clear hH
  refine m_J_run hM 1 rfl ⟨trivial, trivial⟩ ?_
  refine m_J_ldcS (si := 3) hM rfl rfl ?_
  refine m_callV (as := [.ref (1000001 + 3)]) (rest := []) (m_EX_warm E N xs) hM rfl kw_X3_53 rfl rfl (hA.1.1) ⟨_, rfl, rfl⟩ (t_sw (R := R) (by decide) hA.2.2.1 hA.1) rfl (Nat.le_of_ble_eq_true rfl) (Nat.le_of_ble_eq_true rfl) (Nat.le_of_ble_eq_true rfl) (fun ht => ⟨ht, by simp⟩) ?_
  replace hA := k_RL_z (R' := k_step g n 3 R) hA (k_step_le hA.2.2.1)
  replace hF := k_fr_s (k := z) (c := k_rd tp (k_step g n 3 R).1 (k_step g n 3 R).2) hF (by simp)
  show m_J _ _ _ _ _ _ _ _ _ _ _ _ (_, _, _, H.set z (k_rd tp (k_step g n 3 R).1 (k_step g n 3 R).2))
  generalize H.set z (k_rd tp (k_step g n 3 R).1 (k_step g n 3 R).2) = H at hA hF ⊢
  refine m_J_run hM 1 rfl ⟨trivial, trivial⟩ ?_
  refine m_J_if (fun hc => ?_) (fun hc => ?_)
  case refine_2 =>
    have hc2 := k_z1 hc
    rw [if_pos hc2]
    refine m_J_run hM 2 rfl ⟨trivial, trivial, trivial⟩ ?_
    refine m_J_callV (as := [.ref c]) (rest := []) (m_EX_warm E N xs) hM rfl kw_X3_57 rfl rfl rfl hA.1.1 ⟨_, rfl, rfl⟩ (Nat.le_of_ble_eq_true rfl) (Nat.le_of_ble_eq_true rfl) (Nat.le_of_ble_eq_true rfl) (t_law (R := k_step g n 3 R) hA) (fun v' h' tg' hp => ?_) (fun nm h' hp => hp.elim)
    obtain ⟨rfl, rfl, hp1, hp2⟩ := hp
    refine ⟨fun ht => ⟨ht, by rw [hp2.1]; exact Nat.le_refl _⟩, ?_⟩
    replace hF := k_fr_t hF hp2
    refine m_J_run hM 1 rfl ⟨trivial, trivial⟩ ?_
    exact m_J_vret hM rfl rfl (Nat.le_refl _) (Nat.le_refl _) ⟨rfl, rfl, hp1, hF⟩
  have hc2 := k_z0 hc
  rw [if_neg (by rw [hc2]; decide)]
  clear hc hc2
  refine m_J_run hM 1 rfl ⟨trivial, trivial⟩ ?_
  refine m_J_ldcS (si := 13) hM rfl rfl ?_
  refine m_callV (as := [.ref (1000001 + 13)]) (rest := []) (m_EX_warm E N xs) hM rfl kw_X3_53 rfl rfl (hA.1.1) ⟨_, rfl, rfl⟩ (t_sw (R := (k_step g n 3 R)) (by decide) hA.2.2.1 hA.1) rfl (Nat.le_of_ble_eq_true rfl) (Nat.le_of_ble_eq_true rfl) (Nat.le_of_ble_eq_true rfl) (fun ht => ⟨ht, by simp⟩) ?_
  replace hA := k_RL_z (R' := k_step g n 13 (k_step g n 3 R)) hA (k_step_le hA.2.2.1)
  replace hF := k_fr_s (k := z) (c := k_rd tp (k_step g n 13 (k_step g n 3 R)).1 (k_step g n 13 (k_step g n 3 R)).2) hF (by simp)
  show m_J _ _ _ _ _ _ _ _ _ _ _ _ (_, _, _, H.set z (k_rd tp (k_step g n 13 (k_step g n 3 R)).1 (k_step g n 13 (k_step g n 3 R)).2))
  generalize H.set z (k_rd tp (k_step g n 13 (k_step g n 3 R)).1 (k_step g n 13 (k_step g n 3 R)).2) = H at hA hF ⊢
  refine m_J_run hM 1 rfl ⟨trivial, trivial⟩ ?_
  refine m_J_if (fun hc => ?_) (fun hc => ?_)
  case refine_2 =>
    have hc2 := k_z1 hc
    rw [if_pos hc2]
    refine m_J_run hM 2 rfl ⟨trivial, trivial, trivial⟩ ?_
    refine m_J_callV (as := [.ref c]) (rest := []) (m_EX_warm E N xs) hM rfl kw_X3_62 rfl rfl rfl hA.1.1 ⟨_, rfl, rfl⟩ (Nat.le_of_ble_eq_true rfl) (Nat.le_of_ble_eq_true rfl) (Nat.le_of_ble_eq_true rfl) (t_grow (R := k_step g n 13 (k_step g n 3 R)) hA) (fun v' h' tg' hp => ?_) (fun nm h' hp => hp.elim)
    obtain ⟨rfl, rfl, hp1, hp2⟩ := hp
    refine ⟨fun ht => ⟨ht, by rw [hp2.1]; exact Nat.le_refl _⟩, ?_⟩
    replace hF := k_fr_t hF hp2
    refine m_J_run hM 1 rfl ⟨trivial, trivial⟩ ?_
    exact m_J_vret hM rfl rfl (Nat.le_refl _) (Nat.le_refl _) ⟨rfl, rfl, hp1, hF⟩
  have hc2 := k_z0 hc
  rw [if_neg (by rw [hc2]; decide)]
  clear hc hc2
  refine m_J_run hM 2 rfl ⟨trivial, trivial, trivial⟩ ?_
  refine m_J_callV (as := [.ref c]) (rest := []) (m_EX_warm E N xs) hM rfl kw_X3_65 rfl rfl rfl hA.1.1 ⟨_, rfl, rfl⟩ (Nat.le_of_ble_eq_true rfl) (Nat.le_of_ble_eq_true rfl) (Nat.le_of_ble_eq_true rfl) (t_worth (R := k_step g n 13 (k_step g n 3 R)) hA) (fun v' h' tg' hp => ?_) (fun nm h' hp => hp.elim)
  obtain ⟨rfl, rfl, hp1, hp2⟩ := hp
  refine ⟨fun ht => ⟨ht, by rw [hp2.1]; exact Nat.le_refl _⟩, ?_⟩
  replace hF := k_fr_t hF hp2
  exact m_J_vret hM rfl rfl (Nat.le_refl _) (Nat.le_refl _) ⟨rfl, rfl, hp1, hF⟩
end
