/-! READER: lines -/
section
variable {l : Launch} {E : mE} {N : Nat} {xs : Nat → Int32} {d : Nat} {tg : Bool} {h : mH} {z tp tb : Nat} {R : kR} {n : Nat} {g : Nat → Int32}
set_option maxHeartbeats 1000000 in
theorem t_use (hp : R.1 ≤ n) (hT : k_TP h z tp tb R.1 R.2 n g) : m_Dt l (m_EX E N xs) E mM_X3_readUse (d + 5) 0 0 [.ref z] h tg (some (.int (nI (k_ru g n R).1))) (h.set z (k_rd tp (k_ru g n R).2.1 (k_ru g n R).2.2)) tg := by
  have hM := mM_X3_readUse_ok
  obtain ⟨p, wr⟩ := R
  dsimp only at hp hT ⊢
  unfold k_ru
  dsimp only
  refine m_Sp_of (by decide) (Nat.le_of_ble_eq_true rfl) ?_
  have hs0 : ∀ c, h.set z c = h.set z c := fun _ => rfl
  have hT0 := hT
  refine m_J_run hM 1 rfl ⟨trivial, trivial⟩ ?_
  refine m_J_ldcS (si := 4) hM rfl rfl ?_
  refine m_callV (as := [.ref (1000001 + 4)]) (rest := []) (m_EX_warm E N xs) hM rfl kw_X3_53 rfl rfl (hT.1) ⟨_, rfl, rfl⟩ (t_sw (R := (p, wr)) (by decide) hp hT) rfl (Nat.le_of_ble_eq_true rfl) (Nat.le_of_ble_eq_true rfl) (Nat.le_of_ble_eq_true rfl) (fun ht => ⟨ht, by simp⟩) ?_
  replace hT := k_TP_z (p' := k_swp g n (p) 4) (wr' := wr) hT
  replace hp := k_swp_le (g := g) (si := 4) hp
  refine m_J_run hM 1 rfl ⟨trivial, trivial⟩ ?_
  refine m_J_if (fun hc => ?_) (fun hc => ?_)
  case refine_2 =>
    have hc2 := k_z1 hc
    rw [if_pos hc2]
    refine m_J_run hM 1 rfl ⟨trivial, trivial⟩ ?_
    exact m_iret hM rfl rfl rfl (Nat.le_of_ble_eq_true rfl) (Nat.le_of_ble_eq_true rfl) (rfl) (rfl)
  have hc2 := k_z0 hc
  rw [if_neg (by rw [hc2]; decide)]
  clear hc hc2
  refine m_J_run hM 1 rfl ⟨trivial, trivial⟩ ?_
  refine m_J_ldcS (si := 5) hM rfl rfl ?_
  refine m_callV (as := [.ref (1000001 + 5)]) (rest := []) (m_EX_warm E N xs) hM rfl kw_X3_53 rfl rfl (hT.1) ⟨_, rfl, rfl⟩ (t_sw (R := (k_swp g n (p) 4, wr)) (by decide) hp hT) rfl (Nat.le_of_ble_eq_true rfl) (Nat.le_of_ble_eq_true rfl) (Nat.le_of_ble_eq_true rfl) (fun ht => ⟨ht, by simp⟩) ?_
  replace hT := k_TP_z (p' := k_swp g n (k_swp g n (p) 4) 5) (wr' := wr) hT
  replace hp := k_swp_le (g := g) (si := 5) hp
  rw [k_s2] at hT ⊢
  refine m_J_run hM 1 rfl ⟨trivial, trivial⟩ ?_
  refine m_J_if (fun hc => ?_) (fun hc => ?_)
  case refine_2 =>
    have hc2 := k_z1 hc
    rw [if_pos hc2]
    refine m_J_run hM 1 rfl ⟨trivial, trivial⟩ ?_
    exact m_iret hM rfl rfl rfl (Nat.le_of_ble_eq_true rfl) (Nat.le_of_ble_eq_true rfl) (rfl) (rfl)
  have hc2 := k_z0 hc
  rw [if_neg (by rw [hc2]; decide)]
  clear hc hc2
  refine m_J_run hM 1 rfl ⟨trivial, trivial⟩ ?_
  refine m_J_ldcS (si := 6) hM rfl rfl ?_
  refine m_callV (as := [.ref (1000001 + 6)]) (rest := []) (m_EX_warm E N xs) hM rfl kw_X3_53 rfl rfl (hT.1) ⟨_, rfl, rfl⟩ (t_sw (R := (k_swp g n (k_swp g n (p) 4) 5, wr)) (by decide) hp hT) rfl (Nat.le_of_ble_eq_true rfl) (Nat.le_of_ble_eq_true rfl) (Nat.le_of_ble_eq_true rfl) (fun ht => ⟨ht, by simp⟩) ?_
  replace hT := k_TP_z (p' := k_swp g n (k_swp g n (k_swp g n (p) 4) 5) 6) (wr' := wr) hT
  replace hp := k_swp_le (g := g) (si := 6) hp
  rw [k_s2] at hT ⊢
  refine m_J_run hM 1 rfl ⟨trivial, trivial⟩ ?_
  refine m_J_if (fun hc => ?_) (fun hc => ?_)
  case refine_2 =>
    have hc2 := k_z1 hc
    rw [if_pos hc2]
    refine m_J_run hM 1 rfl ⟨trivial, trivial⟩ ?_
    exact m_iret hM rfl rfl rfl (Nat.le_of_ble_eq_true rfl) (Nat.le_of_ble_eq_true rfl) (rfl) (rfl)
  have hc2 := k_z0 hc
  rw [if_neg (by rw [hc2]; decide)]
  clear hc hc2
  refine m_J_run hM 1 rfl ⟨trivial, trivial⟩ ?_
  refine m_J_ldcS (si := 7) hM rfl rfl ?_
  refine m_callV (as := [.ref (1000001 + 7)]) (rest := []) (m_EX_warm E N xs) hM rfl kw_X3_53 rfl rfl (hT.1) ⟨_, rfl, rfl⟩ (t_sw (R := (k_swp g n (k_swp g n (k_swp g n (p) 4) 5) 6, wr)) (by decide) hp hT) rfl (Nat.le_of_ble_eq_true rfl) (Nat.le_of_ble_eq_true rfl) (Nat.le_of_ble_eq_true rfl) (fun ht => ⟨ht, by simp⟩) ?_
  replace hT := k_TP_z (p' := k_swp g n (k_swp g n (k_swp g n (k_swp g n (p) 4) 5) 6) 7) (wr' := wr) hT
  replace hp := k_swp_le (g := g) (si := 7) hp
  rw [k_s2] at hT ⊢
  refine m_J_run hM 1 rfl ⟨trivial, trivial⟩ ?_
  refine m_J_if (fun hc => ?_) (fun hc => ?_)
  case refine_2 =>
    have hc2 := k_z1 hc
    rw [if_pos hc2]
    refine m_J_run hM 1 rfl ⟨trivial, trivial⟩ ?_
    exact m_iret hM rfl rfl rfl (Nat.le_of_ble_eq_true rfl) (Nat.le_of_ble_eq_true rfl) (rfl) (rfl)
  have hc2 := k_z0 hc
  rw [if_neg (by rw [hc2]; decide)]
  clear hc hc2
  refine m_J_run hM 1 rfl ⟨trivial, trivial⟩ ?_
  refine m_J_ldcS (si := 8) hM rfl rfl ?_
  refine m_callV (as := [.ref (1000001 + 8)]) (rest := []) (m_EX_warm E N xs) hM rfl kw_X3_53 rfl rfl (hT.1) ⟨_, rfl, rfl⟩ (t_sw (R := (k_swp g n (k_swp g n (k_swp g n (k_swp g n (p) 4) 5) 6) 7, wr)) (by decide) hp hT) rfl (Nat.le_of_ble_eq_true rfl) (Nat.le_of_ble_eq_true rfl) (Nat.le_of_ble_eq_true rfl) (fun ht => ⟨ht, by simp⟩) ?_
  replace hT := k_TP_z (p' := k_swp g n (k_swp g n (k_swp g n (k_swp g n (k_swp g n (p) 4) 5) 6) 7) 8) (wr' := wr) hT
  replace hp := k_swp_le (g := g) (si := 8) hp
  rw [k_s2] at hT ⊢
  refine m_J_run hM 1 rfl ⟨trivial, trivial⟩ ?_
  refine m_J_if (fun hc => ?_) (fun hc => ?_)
  case refine_2 =>
    have hc2 := k_z1 hc
    rw [if_pos hc2]
    refine m_J_run hM 1 rfl ⟨trivial, trivial⟩ ?_
    exact m_iret hM rfl rfl rfl (Nat.le_of_ble_eq_true rfl) (Nat.le_of_ble_eq_true rfl) (rfl) (rfl)
  have hc2 := k_z0 hc
  rw [if_neg (by rw [hc2]; decide)]
  clear hc hc2
  refine m_J_run hM 1 rfl ⟨trivial, trivial⟩ ?_
  refine m_callV (as := []) (rest := []) (m_EX_warm E N xs) hM rfl kw_X3_48 rfl rfl (hT.1) ⟨_, rfl, rfl⟩ (t_ref hT) rfl (Nat.le_of_ble_eq_true rfl) (Nat.le_of_ble_eq_true rfl) (Nat.le_of_ble_eq_true rfl) (fun ht => ⟨ht, by simp⟩) ?_
  rw [k_s2]
  refine m_J_run hM 1 rfl ⟨trivial, trivial⟩ ?_
  exact m_iret hM rfl rfl rfl (Nat.le_of_ble_eq_true rfl) (Nat.le_of_ble_eq_true rfl) (rfl) (rfl)
theorem t_word {si : Nat} (hi : si < 42) (hp : R.1 ≤ n) (hT : k_TP h z tp tb R.1 R.2 n g) : m_Dt l (m_EX E N xs) E mM_X3_readWord (d + 5) 0 0 [.ref z, .ref (1000001 + si)] h tg none (h.set z (k_rd tp (k_rw g n si R).1 (k_rw g n si R).2)) tg := by
  have hM := mM_X3_readWord_ok
  refine m_Sp_of (by decide) (Nat.le_of_ble_eq_true rfl) ?_
  refine m_J_run hM 2 rfl ⟨trivial, trivial, trivial⟩ ?_
  refine m_callV (as := [.ref (1000001 + si)]) (rest := []) (m_EX_warm E N xs) hM rfl kw_X3_53 rfl rfl (hT.1) ⟨_, rfl, rfl⟩ (t_sw hi hp hT) rfl (Nat.le_of_ble_eq_true rfl) (Nat.le_of_ble_eq_true rfl) (Nat.le_of_ble_eq_true rfl) (fun ht => ⟨ht, by simp⟩) ?_
  refine m_J_run hM 1 rfl ⟨trivial, trivial⟩ ?_
  refine m_J_if (fun hc => ?_) (fun hc => ?_)
  · have hc2 := k_z1 hc
    exact m_vret hM rfl rfl (Nat.le_of_ble_eq_true rfl) (Nat.le_of_ble_eq_true rfl) (by rw [k_rw, if_pos hc2])
  · have hc2 := k_z0 (Classical.not_not.mp hc)
    have hT2 := k_TP_z (p' := k_swp g n R.1 si) (wr' := R.2) hT
    refine m_J_run hM 1 rfl ⟨trivial, trivial⟩ ?_
    refine m_callV (as := []) (rest := []) (m_EX_warm E N xs) hM rfl kw_X3_48 rfl rfl (hT2.1) ⟨_, rfl, rfl⟩ (t_ref hT2) rfl (Nat.le_of_ble_eq_true rfl) (Nat.le_of_ble_eq_true rfl) (Nat.le_of_ble_eq_true rfl) (fun ht => ⟨ht, by simp⟩) ?_
    rw [k_s2]
    exact m_vret hM rfl rfl (Nat.le_of_ble_eq_true rfl) (Nat.le_of_ble_eq_true rfl) (by rw [k_rw, if_neg (by rw [hc2]; decide)])
end
