/-! SQUARES: rectangle, around, isJoined, stepsToAll -/
theorem k_rem10 {a : Nat} (h : a < 1000) : nI a - nI a / nI 10 * nI 10 = nI (a % 10) := pk_rem (by omega) (by omega) (by omega)
theorem k_div10 {a : Nat} (h : a < 1000) : nI a / nI 10 = nI (a / 10) := pk_div (by omega) (by omega) (by omega)
theorem k_minN {a b : Nat} (ha : a < 1000) (hb : b < 1000) : (if nI b < nI a then nI b else nI a) = nI (min a b) := by
  by_cases h : b < a
  · rw [if_pos (nI_lt h (by omega)), Nat.min_eq_right (by omega)]
  · rw [if_neg (nI_nlt (by omega) (by omega)), Nat.min_eq_left (by omega)]
theorem k_maxN {a b : Nat} (ha : a < 1000) (hb : b < 1000) : (if nI a < nI b then nI b else nI a) = nI (max a b) := by
  by_cases h : a < b
  · rw [if_pos (nI_lt h (by omega)), Nat.max_eq_right (by omega)]
  · rw [if_neg (nI_nlt (by omega) (by omega)), Nat.max_eq_left (by omega)]
theorem k_succ (i : Nat) : nI (i + 1) = nI i + nI 1 := (nI_succ i).trans (by rw [show (1 : Int32) = nI 1 by decide])
def k_row (l r : Nat) : Int64 := k_shl (k_shl (Int64.ofNat 1) (r - l + 1) - Int64.ofNat 1) l
def k_rect (l r t : Nat) : Nat → Int64
  | 0 => Int64.ofNat 0
  | n + 1 => k_rect l r t n ||| k_shl (k_row l r) (10 * (t + n))
/-- the rectangle with corners a and b -/
def k_rc (a b : Nat) : Int64 := k_rect (min (a % 10) (b % 10)) (max (a % 10) (b % 10)) (min (a / 10) (b / 10)) (max (a / 10) (b / 10) + 1 - min (a / 10) (b / 10))
/-- is square s in it -/
def k_in (a b s : Nat) : Bool := decide (min (a % 10) (b % 10) ≤ s % 10) && decide (s % 10 ≤ max (a % 10) (b % 10)) && decide (min (a / 10) (b / 10) ≤ s / 10) && decide (s / 10 ≤ max (a / 10) (b / 10))
section
variable {l : Launch} {E : mE} {N : Nat} {xs : Nat → Int32} {d : Nat} {tg : Bool} {h : mH}
set_option maxHeartbeats 2000000 in
theorem s_rect (a b : Nat) (ha : a < 60) (hb : b < 60) : m_Dt l (m_EX E N xs) E mM_X5_rectangle d 0 0 [.int (nI a), .int (nI b)] h tg (some (.long (k_rc a b))) h tg := by
  have hM := mM_X5_rectangle_ok
  refine m_Sp_of (by decide) (Nat.le_of_ble_eq_true rfl) ?_
  refine m_J_run hM 6 rfl ⟨trivial, trivial, (by decide), trivial, trivial, (by decide), trivial⟩ ?_
  rw [k_rem10 (a := a) (by omega), k_rem10 (a := b) (by omega)]
  refine m_min hM rfl kw_X5_15 (Nat.le_of_ble_eq_true rfl) (Nat.le_of_ble_eq_true rfl) (Nat.le_of_ble_eq_true rfl) ?_
  rw [k_minN (a := a % 10) (b := b % 10) (by omega) (by omega)]
  refine m_J_run hM 7 rfl ⟨trivial, trivial, trivial, (by decide), trivial, trivial, (by decide), trivial⟩ ?_
  rw [k_rem10 (a := a) (by omega), k_rem10 (a := b) (by omega)]
  refine m_max hM rfl kw_X5_21 (Nat.le_of_ble_eq_true rfl) (Nat.le_of_ble_eq_true rfl) (Nat.le_of_ble_eq_true rfl) ?_
  rw [k_maxN (a := a % 10) (b := b % 10) (by omega) (by omega)]
  refine m_J_run hM 7 rfl ⟨trivial, trivial, trivial, (by decide), trivial, trivial, (by decide), trivial⟩ ?_
  rw [k_div10 (a := a) (by omega), k_div10 (a := b) (by omega)]
  refine m_min hM rfl kw_X5_15 (Nat.le_of_ble_eq_true rfl) (Nat.le_of_ble_eq_true rfl) (Nat.le_of_ble_eq_true rfl) ?_
  rw [k_minN (a := a / 10) (b := b / 10) (by omega) (by omega)]
  refine m_J_run hM 7 rfl ⟨trivial, trivial, trivial, (by decide), trivial, trivial, (by decide), trivial⟩ ?_
  rw [k_div10 (a := a) (by omega), k_div10 (a := b) (by omega)]
  refine m_max hM rfl kw_X5_21 (Nat.le_of_ble_eq_true rfl) (Nat.le_of_ble_eq_true rfl) (Nat.le_of_ble_eq_true rfl) ?_
  rw [k_maxN (a := a / 10) (b := b / 10) (by omega) (by omega)]
  have h1 : min (a % 10) (b % 10) ≤ max (a % 10) (b % 10) := by omega
  have h2 : max (a % 10) (b % 10) ≤ 9 := by omega
  have h3 : min (a / 10) (b / 10) ≤ max (a / 10) (b / 10) := by omega
  have h4 : max (a / 10) (b / 10) ≤ 5 := by omega
  unfold k_rc
  generalize min (a % 10) (b % 10) = lf at h1 ⊢
  generalize max (a % 10) (b % 10) = rt at h1 h2 ⊢
  generalize min (a / 10) (b / 10) = tp at h3 ⊢
  generalize max (a / 10) (b / 10) = bm at h3 h4 ⊢
  refine m_J_run hM 5 rfl ⟨trivial, trivial, trivial, trivial, trivial, trivial⟩ ?_
  rw [show nI rt - nI lf = nI (rt - lf) from pk_sub h1]
  refine m_J_run hM 2 rfl ⟨trivial, trivial, trivial⟩ ?_
  rw [← k_succ (rt - lf)]
  refine m_J_run hM 10 rfl ⟨trivial, trivial, trivial, trivial, trivial, trivial, trivial, trivial, trivial, trivial, trivial⟩ ?_
  have loop : ∀ n i : Nat, i + n = bm + 1 - tp → m_J l (m_EX E N xs) E mM_X5_rectangle d 0 0 (m_K (some (.long (k_rect lf rt tp (bm + 1 - tp)))) h tg) m_no tg 0 0 (70, [some (.int (nI a)), some (.int (nI b)), some (.int (nI lf)), some (.int (nI rt)), some (.int (nI tp)), some (.int (nI bm)), some (.long (k_row lf rt)), none, some (.long (k_rect lf rt tp i)), none, some (.int (nI (tp + i)))], [], h) := by
    intro n
    induction n with
    | zero =>
      intro i hi
      refine m_J_run hM 3 rfl ⟨trivial, trivial, trivial, trivial⟩ ?_
      refine m_J_if (fun _ => ?_) (fun hc => absurd (nI_lt (by omega) (by omega)) hc)
      refine m_J_run hM 1 rfl ⟨trivial, trivial⟩ ?_
      exact m_lret hM rfl rfl (Nat.le_of_ble_eq_true rfl) (Nat.le_of_ble_eq_true rfl) (by rw [show bm + 1 - tp = i by omega]) (rfl)
    | succ n ih =>
      intro i hi
      refine m_J_run hM 3 rfl ⟨trivial, trivial, trivial, trivial⟩ ?_
      refine m_J_if (fun hc => absurd hc (nI_nlt (by omega) (by omega))) (fun _ => ?_)
      refine m_J_run hM 5 rfl ⟨trivial, trivial, trivial, trivial, trivial, trivial⟩ ?_
      rw [show nI 10 * nI (tp + i) = nI (10 * (tp + i)) from pk_mul 10 (tp + i)]
      refine m_J_run hM 5 rfl ⟨trivial, trivial, trivial, trivial, trivial, trivial⟩ ?_
      refine m_eqS (ih (i + 1) (by omega)) ?_
      rw [show tp + (i + 1) = tp + i + 1 by omega, k_succ (tp + i)]
      rfl
  exact loop (bm + 1 - tp) 0 (by omega)
end
