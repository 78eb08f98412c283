/-! NUMBERS AND SETS OF SQUARES: Math, bitCount, Squares -/
/-- shift right, as the machine does it -/
def k_shr (x : Int64) (n : Nat) : Int64 := (x.toUInt64 >>> ((nI n).toInt64.toUInt64 &&& Int64.toUInt64 63)).toInt64
def k_shl (x : Int64) (n : Nat) : Int64 := x <<< ((nI n).toInt64 &&& 63)
def k_pc1 (x : Int64) : Int64 := x - (k_shr x 1 &&& 6148914691236517205)
def k_pc2 (x : Int64) : Int64 := (x &&& 3689348814741910323) + (k_shr x 2 &&& 3689348814741910323)
def k_pc3 (x : Int64) : Int64 := (x + k_shr x 4) &&& 1085102592571150095
def k_pcs (n : Nat) (x : Int64) : Int64 := x + k_shr x n
def k_pc (x : Int64) : Int32 := (k_pcs 32 (k_pcs 16 (k_pcs 8 (k_pc3 (k_pc2 (k_pc1 x)))))).toInt32 &&& nI 127
def k_only (i : Nat) : Int64 := k_shl (Int64.ofNat 1) i
def k_has (x : Int64) (i : Nat) : Bool := decide (¬ (x &&& k_only i) = 0)
def k_z (b : Bool) : Int32 := if b then nI 1 else nI 0
theorem k_z_nar (b : Bool) : narrow .boolean (.int (k_z b)) = .int (k_z b) := by cases b <;> decide
def k_bes (x : Int64) : Int64 := ((k_shl x 10 ||| k_shr x 10) ||| (k_shl (x &&& (-577024252550054401)) 1 ||| k_shr (x &&& (-1127000493261826)) 1)) &&& 1152921504606846975
theorem k_lcmp0 (x y : Int64) : lg_cmp x y = 0 ↔ x = y := by
  unfold lg_cmp
  by_cases h1 : x = y
  · subst h1; simp [Int64.lt_irrefl]
  · rcases Int64.lt_or_lt_of_ne h1 with h2 | h2
    · have h3 : ¬ y < x := fun q => Int64.lt_irrefl (Int64.lt_trans h2 q)
      simp [h1, h3]
    · simp [h1, h2]
section
variable {l : Launch} {E : mE} {N : Nat} {xs : Nat → Int32} {d : Nat} {tg : Bool} {h : mH}
theorem s_pc (x : Int64) : m_Dt l (m_EX E N xs) E mM_J13_bitCount_95d88 d 0 0 [.long x] h tg (some (.int (k_pc x))) h tg := by
  have hM := mM_J13_bitCount_95d88_ok
  refine m_Sp_of (by decide) (Nat.le_of_ble_eq_true rfl) ?_
  refine m_J_run hM 8 rfl ⟨trivial, trivial, trivial, trivial, trivial, trivial, trivial, trivial, trivial⟩ ?_
  refine m_J_run hM 10 rfl ⟨trivial, trivial, trivial, trivial, trivial, trivial, trivial, trivial, trivial, trivial, trivial⟩ ?_
  refine m_J_run hM 8 rfl ⟨trivial, trivial, trivial, trivial, trivial, trivial, trivial, trivial, trivial⟩ ?_
  refine m_J_run hM 12 rfl ⟨trivial, trivial, trivial, trivial, trivial, trivial, trivial, trivial, trivial, trivial, trivial, trivial, trivial⟩ ?_
  refine m_J_run hM 10 rfl ⟨trivial, trivial, trivial, trivial, trivial, trivial, trivial, trivial, trivial, trivial, trivial⟩ ?_
  exact m_iret hM rfl rfl rfl (Nat.le_of_ble_eq_true rfl) (Nat.le_of_ble_eq_true rfl) (rfl) (rfl)
theorem s_only (i : Nat) : m_Dt l (m_EX E N xs) E mM_X5_only d 0 0 [.int (nI i)] h tg (some (.long (k_only i))) h tg := by
  have hM := mM_X5_only_ok
  refine m_Sp_of (by decide) (Nat.le_of_ble_eq_true rfl) ?_
  refine m_J_run hM 3 rfl ⟨trivial, trivial, trivial, trivial⟩ ?_
  exact m_lret hM rfl rfl (Nat.le_of_ble_eq_true rfl) (Nat.le_of_ble_eq_true rfl) (rfl) (rfl)
theorem s_has (x : Int64) (i : Nat) : m_Dt l (m_EX E N xs) E mM_X5_has (d + 1) 0 0 [.long x, .int (nI i)] h tg (some (.int (k_z (k_has x i)))) h tg := by
  have hM := mM_X5_has_ok
  refine m_Sp_of (by decide) (Nat.le_of_ble_eq_true rfl) ?_
  refine m_J_run hM 2 rfl ⟨trivial, trivial, trivial⟩ ?_
  refine m_callS (as := [.int (nI i)]) (rest := [.long x]) (m_EX_warm E N xs) hM rfl kw_X5_11 rfl (s_only i) rfl (Nat.le_of_ble_eq_true rfl) (Nat.le_of_ble_eq_true rfl) (Nat.le_of_ble_eq_true rfl) (fun ht => ⟨ht, Nat.le_refl _⟩) ?_
  refine m_J_run hM 4 rfl ⟨trivial, trivial, trivial, trivial, trivial⟩ ?_
  refine m_J_if (fun hc => ?_) (fun hc => ?_)
  · refine m_J_run hM 1 rfl ⟨trivial, trivial⟩ ?_
    exact m_iret hM rfl rfl (by decide) (Nat.le_of_ble_eq_true rfl) (Nat.le_of_ble_eq_true rfl) (by rw [k_lcmp0] at hc; have hc2 : (x &&& k_only i) = 0 := hc; simp [k_z, k_has, hc2]) (rfl)
  · refine m_J_run hM 2 rfl ⟨trivial, trivial, trivial⟩ ?_
    exact m_iret hM rfl rfl (by decide) (Nat.le_of_ble_eq_true rfl) (Nat.le_of_ble_eq_true rfl) (by rw [k_lcmp0] at hc; have hc2 : ¬ (x &&& k_only i) = 0 := hc; simp [k_z, k_has, hc2]) (rfl)
theorem s_bes (x : Int64) : m_Dt l (m_EX E N xs) E mM_X5_beside d 0 0 [.long x] h tg (some (.long (k_bes x))) h tg := by
  have hM := mM_X5_beside_ok
  refine m_Sp_of (by decide) (Nat.le_of_ble_eq_true rfl) ?_
  refine m_J_run hM 8 rfl ⟨trivial, trivial, trivial, trivial, trivial, trivial, trivial, trivial, trivial⟩ ?_
  refine m_J_run hM 12 rfl ⟨trivial, trivial, trivial, trivial, trivial, trivial, trivial, trivial, trivial, trivial, trivial, trivial, trivial⟩ ?_
  refine m_J_run hM 5 rfl ⟨trivial, trivial, trivial, trivial, trivial, trivial⟩ ?_
  exact m_lret hM rfl rfl (Nat.le_of_ble_eq_true rfl) (Nat.le_of_ble_eq_true rfl) (rfl) (rfl)
end
