/-! SQUARES: around, isJoined, stepsToAll -/
theorem k_subN {a b : Nat} (ha : a < 1000) (hb : b < 1000) : (if nI 0 < nI a - nI b then nI a - nI b else nI 0) = nI (a - b) := by
  by_cases h : b < a
  · rw [show nI a - nI b = nI (a - b) from pk_sub (by omega), if_pos (nI_lt (by omega) (by omega))]
  · rw [if_neg, show a - b = 0 by omega]
    by_cases h2 : a = b
    · subst h2
      rw [show nI a - nI a = nI (a - a) from pk_sub (Nat.le_refl a), Nat.sub_self]
      exact nI_nlt (Nat.le_refl 0) (by omega)
    · have := pk_sneg (a := a) (b := b) (by omega) (by omega)
      intro h3
      rw [show nI 0 = 0 from nI_0] at h3
      exact absurd (Int32.lt_trans this h3) (Int32.lt_irrefl)
/-- all other squares so near -/
def k_ar (a k : Nat) : Int64 := k_rc (10 * (a / 10 - k) + (a % 10 - k)) (10 * min 5 (a / 10 + k) + min 9 (a % 10 + k)) &&& (k_only a ^^^ (-1))
/-- one more step over open squares -/
def k_grow (r o : Int64) : Int64 := r ||| (k_bes r &&& o)
def k_gr (r o : Int64) : Nat → Int64
  | 0 => r
  | n + 1 => k_grow (k_gr r o n) o
def k_jo (x : Int64) : Bool := decide (k_gr (x &&& -x) x 60 = x)
theorem k_gr_fix {r o : Int64} {i : Nat} (h : k_grow (k_gr r o i) o = k_gr r o i) : ∀ n, k_gr r o (i + n) = k_gr r o i := by
  intro n
  induction n with
  | zero => rfl
  | succ n ih =>
    show k_grow (k_gr r o (i + n)) o = _
    rw [ih, h]
/-- the first step count at which all goals are reached -/
def k_st (g r o : Int64) : Nat → Nat → Int32
  | 0, _ => -nI 1
  | n + 1, i => if g &&& (k_gr r o i ^^^ (-1)) = 0 then nI i else k_st g r o n (i + 1)
section
variable {l : Launch} {E : mE} {N : Nat} {xs : Nat → Int32} {d : Nat} {tg : Bool} {h : mH}
set_option maxHeartbeats 2000000 in
theorem s_around (a k : Nat) (ha : a < 60) (hk : k < 10) : m_Dt l (m_EX E N xs) E mM_X5_around (d + 1) 0 0 [.int (nI a), .int (nI k)] h tg (some (.long (k_ar a k))) h tg := by
  have hM := mM_X5_around_ok
  refine m_Sp_of (by decide) (Nat.le_of_ble_eq_true rfl) ?_
  refine m_J_run hM 8 rfl ⟨trivial, trivial, (by decide), trivial, trivial, trivial, (by decide), trivial, trivial⟩ ?_
  rw [k_rem10 (a := a) (by omega), k_div10 (a := a) (by omega)]
  refine m_J_run hM 4 rfl ⟨trivial, trivial, trivial, trivial, trivial⟩ ?_
  refine m_max hM rfl kw_X5_21 (Nat.le_of_ble_eq_true rfl) (Nat.le_of_ble_eq_true rfl) (Nat.le_of_ble_eq_true rfl) ?_
  rw [k_subN (a := a % 10) (b := k) (by omega) (by omega)]
  refine m_J_run hM 5 rfl ⟨trivial, trivial, trivial, trivial, trivial, trivial⟩ ?_
  rw [nI_add]
  refine m_min hM rfl kw_X5_15 (Nat.le_of_ble_eq_true rfl) (Nat.le_of_ble_eq_true rfl) (Nat.le_of_ble_eq_true rfl) ?_
  rw [k_minN (a := 9) (b := a % 10 + k) (by omega) (by omega)]
  refine m_J_run hM 5 rfl ⟨trivial, trivial, trivial, trivial, trivial, trivial⟩ ?_
  refine m_max hM rfl kw_X5_21 (Nat.le_of_ble_eq_true rfl) (Nat.le_of_ble_eq_true rfl) (Nat.le_of_ble_eq_true rfl) ?_
  rw [k_subN (a := a / 10) (b := k) (by omega) (by omega)]
  refine m_J_run hM 5 rfl ⟨trivial, trivial, trivial, trivial, trivial, trivial⟩ ?_
  rw [nI_add]
  refine m_min hM rfl kw_X5_15 (Nat.le_of_ble_eq_true rfl) (Nat.le_of_ble_eq_true rfl) (Nat.le_of_ble_eq_true rfl) ?_
  rw [k_minN (a := 5) (b := a / 10 + k) (by omega) (by omega)]
  refine m_J_run hM 11 rfl ⟨trivial, trivial, trivial, trivial, trivial, trivial, trivial, trivial, trivial, trivial, trivial, trivial⟩ ?_
  rw [show nI 10 * nI (a / 10 - k) = nI (10 * (a / 10 - k)) from pk_mul 10 _, show nI 10 * nI (min 5 (a / 10 + k)) = nI (10 * min 5 (a / 10 + k)) from pk_mul 10 _, nI_add, nI_add]
  refine m_callS (as := [.int (nI (10 * (a / 10 - k) + (a % 10 - k))), .int (nI (10 * min 5 (a / 10 + k) + min 9 (a % 10 + k)))]) (rest := []) (m_EX_warm E N xs) hM rfl kw_X5_24 rfl (s_rect _ _ (by omega) (by omega)) rfl (Nat.le_of_ble_eq_true rfl) (Nat.le_of_ble_eq_true rfl) (Nat.le_of_ble_eq_true rfl) (fun ht => ⟨ht, Nat.le_refl _⟩) ?_
  refine m_J_run hM 1 rfl ⟨trivial, trivial⟩ ?_
  refine m_callS (as := [.int (nI a)]) (rest := [.long (k_rc (10 * (a / 10 - k) + (a % 10 - k)) (10 * min 5 (a / 10 + k) + min 9 (a % 10 + k)))]) (m_EX_warm E N xs) hM rfl kw_X5_11 rfl (s_only a) rfl (Nat.le_of_ble_eq_true rfl) (Nat.le_of_ble_eq_true rfl) (Nat.le_of_ble_eq_true rfl) (fun ht => ⟨ht, Nat.le_refl _⟩) ?_
  refine m_J_run hM 3 rfl ⟨trivial, trivial, trivial, trivial⟩ ?_
  exact m_lret hM rfl rfl (Nat.le_of_ble_eq_true rfl) (Nat.le_of_ble_eq_true rfl) (rfl) (rfl)
set_option maxHeartbeats 2000000 in
theorem s_joined (x : Int64) : m_Dt l (m_EX E N xs) E mM_X5_isJoined (d + 1) 0 0 [.long x] h tg (some (.int (k_z (k_jo x)))) h tg := by
  have hM := mM_X5_isJoined_ok
  refine m_Sp_of (by decide) (Nat.le_of_ble_eq_true rfl) ?_
  refine m_J_run hM 9 rfl ⟨trivial, trivial, trivial, trivial, trivial, trivial, trivial, trivial, trivial, trivial⟩ ?_
  have fin : ∀ (L4 : Option Value) (L7 : Option Value), m_J l (m_EX E N xs) E mM_X5_isJoined (d + 1) 0 0 (m_K (some (.int (k_z (k_jo x)))) h tg) m_no tg 0 0 (51, [some (.long x), none, some (.long (x &&& -x)), none, some (.long (k_gr (x &&& -x) x 60)), none, L4, L7, none], [], h) := by
    intro L4 L7
    refine m_J_run hM 4 rfl ⟨trivial, trivial, trivial, trivial, trivial⟩ ?_
    refine m_J_if (fun hc => ?_) (fun hc => ?_)
    · refine m_J_run hM 1 rfl ⟨trivial, trivial⟩ ?_
      exact m_iret hM rfl rfl (by decide) (Nat.le_of_ble_eq_true rfl) (Nat.le_of_ble_eq_true rfl) (by rw [k_lcmp0] at hc; simp [k_z, k_jo, hc]) (rfl)
    · refine m_J_run hM 2 rfl ⟨trivial, trivial, trivial⟩ ?_
      exact m_iret hM rfl rfl (by decide) (Nat.le_of_ble_eq_true rfl) (Nat.le_of_ble_eq_true rfl) (by rw [k_lcmp0] at hc; simp [k_z, k_jo, Classical.not_not.mp hc]) (rfl)
  have loop : ∀ (n i : Nat) (L7 : Option Value), i + n = 60 → m_J l (m_EX E N xs) E mM_X5_isJoined (d + 1) 0 0 (m_K (some (.int (k_z (k_jo x)))) h tg) m_no tg 0 0 (11, [some (.long x), none, some (.long (x &&& -x)), none, some (.long (k_gr (x &&& -x) x i)), none, some (.int (nI i)), L7, none], [], h) := by
    intro n
    induction n with
    | zero =>
      intro i L7 hi
      have e : i = 60 := by omega
      subst e
      refine m_J_run hM 3 rfl ⟨trivial, trivial, trivial, trivial⟩ ?_
      refine m_J_if (fun _ => ?_) (fun hc => absurd (by decide) hc)
      exact fin _ _
    | succ n ih =>
      intro i L7 hi
      refine m_J_run hM 3 rfl ⟨trivial, trivial, trivial, trivial⟩ ?_
      refine m_J_if (fun hc => absurd hc (nI_ge (by omega) (by omega))) (fun _ => ?_)
      refine m_J_run hM 2 rfl ⟨trivial, trivial, trivial⟩ ?_
      refine m_callS (as := [.long (k_gr (x &&& -x) x i)]) (rest := [.long (k_gr (x &&& -x) x i)]) (m_EX_warm E N xs) hM rfl kw_X5_36 rfl (s_bes _) rfl (Nat.le_of_ble_eq_true rfl) (Nat.le_of_ble_eq_true rfl) (Nat.le_of_ble_eq_true rfl) (fun ht => ⟨ht, Nat.le_refl _⟩) ?_
      refine m_J_run hM 8 rfl ⟨trivial, trivial, trivial, trivial, trivial, trivial, trivial, trivial, trivial⟩ ?_
      refine m_J_if (fun hc => ?_) (fun hc => ?_)
      · refine m_J_run hM 4 rfl ⟨trivial, trivial, trivial, trivial, trivial⟩ ?_
        refine m_eqS (ih (i + 1) (some (.long (k_grow (k_gr (x &&& -x) x i) x))) (by omega)) ?_
        rw [k_succ i]
        rfl
      · rw [k_lcmp0] at hc
        have hc2 : k_grow (k_gr (x &&& -x) x i) x = k_gr (x &&& -x) x i := Classical.not_not.mp hc
        refine m_J_run hM 1 rfl ⟨trivial, trivial⟩ ?_
        refine m_eqS (fin (some (.int (nI i))) (some (.long (k_grow (k_gr (x &&& -x) x i) x)))) ?_
        have e := k_gr_fix hc2 (60 - i)
        rw [show i + (60 - i) = 60 by omega] at e
        rw [e]
        rfl
  exact loop 60 0 none rfl
set_option maxHeartbeats 2000000 in
theorem s_steps (g o : Int64) (a : Nat) : m_Dt l (m_EX E N xs) E mM_X5_stepsToAll (d + 1) 0 0 [.long g, .int (nI a), .long o] h tg (some (.int (k_st g (k_only a) o 60 0))) h tg := by
  have hM := mM_X5_stepsToAll_ok
  refine m_Sp_of (by decide) (Nat.le_of_ble_eq_true rfl) ?_
  refine m_J_run hM 1 rfl ⟨trivial, trivial⟩ ?_
  refine m_callS (as := [.int (nI a)]) (rest := []) (m_EX_warm E N xs) hM rfl kw_X5_11 rfl (s_only a) rfl (Nat.le_of_ble_eq_true rfl) (Nat.le_of_ble_eq_true rfl) (Nat.le_of_ble_eq_true rfl) (fun ht => ⟨ht, Nat.le_refl _⟩) ?_
  refine m_J_run hM 3 rfl ⟨trivial, trivial, trivial, trivial⟩ ?_
  have loop : ∀ (n i : Nat), i + n = 60 → m_J l (m_EX E N xs) E mM_X5_stepsToAll (d + 1) 0 0 (m_K (some (.int (k_st g (k_only a) o n i))) h tg) m_no tg 0 0 (9, [some (.long g), none, some (.int (nI a)), some (.long o), none, some (.long (k_gr (k_only a) o i)), none, some (.int (nI i))], [], h) := by
    intro n
    induction n with
    | zero =>
      intro i hi
      have e : i = 60 := by omega
      subst e
      refine m_J_run hM 3 rfl ⟨trivial, trivial, trivial, trivial⟩ ?_
      refine m_J_if (fun _ => ?_) (fun hc => absurd (by decide) hc)
      refine m_J_run hM 1 rfl ⟨trivial, trivial⟩ ?_
      exact m_iret hM rfl rfl rfl (Nat.le_of_ble_eq_true rfl) (Nat.le_of_ble_eq_true rfl) (rfl) (rfl)
    | succ n ih =>
      intro i hi
      refine m_J_run hM 3 rfl ⟨trivial, trivial, trivial, trivial⟩ ?_
      refine m_J_if (fun hc => absurd hc (nI_ge (by omega) (by omega))) (fun _ => ?_)
      refine m_J_run hM 8 rfl ⟨trivial, trivial, trivial, trivial, trivial, trivial, trivial, trivial, trivial⟩ ?_
      refine m_J_if (fun hc => ?_) (fun hc => ?_)
      · rw [k_lcmp0] at hc
        refine m_J_run hM 2 rfl ⟨trivial, trivial, trivial⟩ ?_
        refine m_callS (as := [.long (k_gr (k_only a) o i)]) (rest := [.long (k_gr (k_only a) o i)]) (m_EX_warm E N xs) hM rfl kw_X5_36 rfl (s_bes _) rfl (Nat.le_of_ble_eq_true rfl) (Nat.le_of_ble_eq_true rfl) (Nat.le_of_ble_eq_true rfl) (fun ht => ⟨ht, Nat.le_refl _⟩) ?_
        refine m_J_run hM 6 rfl ⟨trivial, trivial, trivial, trivial, trivial, trivial, trivial⟩ ?_
        have hc2 : ¬ g &&& (k_gr (k_only a) o i ^^^ (-1)) = 0 := hc
        rw [k_st, if_neg hc2]
        refine m_eqS (ih (i + 1) (by omega)) ?_
        rw [k_succ i]
        rfl
      · rw [k_lcmp0] at hc
        have hc2 : g &&& (k_gr (k_only a) o i ^^^ (-1)) = 0 := Classical.not_not.mp hc
        refine m_J_run hM 1 rfl ⟨trivial, trivial⟩ ?_
        exact m_iret hM rfl rfl rfl (Nat.le_of_ble_eq_true rfl) (Nat.le_of_ble_eq_true rfl) (by rw [k_st, if_pos hc2]) (rfl)
  exact loop 60 0 rfl
end
