/-! TAPE AND READER: the small things -/
def k_at (g : Nat → Int32) (n p : Nat) : Int32 := if p < n then g p &&& nI 255 else -nI 1
abbrev k_tp (tb n : Nat) : va_E := .inr (5, [.ref tb, .int (nI n)])
abbrev k_rd (tp p : Nat) (wr : Int32) : va_E := .inr (3, [.ref tp, .int (nI p), .int wr])
def k_TP (h : mH) (z tp tb p : Nat) (wr : Int32) (n : Nat) (g : Nat → Int32) : Prop := h[z]? = some (k_rd tp p wr) ∧ h[tp]? = some (k_tp tb n) ∧ h[tb]? = some (k_ba 400 g) ∧ n ≤ 400
theorem k_TP_z {h : mH} {z tp tb p p' : Nat} {wr wr' : Int32} {n : Nat} {g : Nat → Int32} (hT : k_TP h z tp tb p wr n g) : k_TP (h.set z (k_rd tp p' wr')) z tp tb p' wr' n g := by
  obtain ⟨h1, h2, h3, h4⟩ := hT
  exact ⟨k_ss h1, k_sn (k_neO h2 h1 (by simp)) h2, k_sn (Ne.symm (k_ne h1 h3)) h3, h4⟩
def k_sbf (g : Nat → Int32) (n : Nat) : Nat → Nat → Nat
  | 0, p => p
  | f + 1, p => if p < n ∧ k_at g n p = nI 32 then k_sbf g n f (p + 1) else p
def k_sb (g : Nat → Int32) (n p : Nat) : Nat := k_sbf g n (n - p) p
def k_rlf (g : Nat → Int32) (n a b p : Nat) : Nat → Nat → Nat
  | 0, i => i
  | f + 1, i => if i < n ∧ ¬ k_at g n (p + i) < nI a ∧ ¬ nI b < k_at g n (p + i) then k_rlf g n a b p f (i + 1) else i
def k_rl (g : Nat → Int32) (n a b p : Nat) : Nat := k_rlf g n a b p n 0
def k_rf (wr : Int32) (p : Nat) : Int32 := if wr = -nI 1 then nI p else wr
theorem k_sbf_le (g : Nat → Int32) (n : Nat) : ∀ f p, p ≤ n → p ≤ k_sbf g n f p ∧ k_sbf g n f p ≤ n := by
  intro f
  induction f with
  | zero => intro p hp; exact ⟨Nat.le_refl _, hp⟩
  | succ f ih =>
    intro p hp
    rw [k_sbf]
    split
    · rename_i hc
      have := ih (p + 1) (by omega)
      omega
    · exact ⟨Nat.le_refl _, hp⟩
theorem k_sb_le {g : Nat → Int32} {n p : Nat} (hp : p ≤ n) : p ≤ k_sb g n p ∧ k_sb g n p ≤ n := k_sbf_le g n _ p hp
theorem k_rlf_le (g : Nat → Int32) (n a b p : Nat) (ha : a < 1000) (hp : p ≤ n) : ∀ f i, p + i ≤ n → i ≤ k_rlf g n a b p f i ∧ p + k_rlf g n a b p f i ≤ n := by
  intro f
  induction f with
  | zero => intro i hi; exact ⟨Nat.le_refl _, hi⟩
  | succ f ih =>
    intro i hi
    rw [k_rlf]
    split
    · rename_i hc
      have hlt : p + i < n := by
        rcases Nat.lt_or_ge (p + i) n with q | q
        · exact q
        · exfalso
          apply hc.2.1
          rw [k_at, if_neg (by omega)]
          have h0 : (-nI 1 : Int32) < nI 0 := by decide
          exact Int32.lt_of_lt_of_le h0 (nI_le (by omega) (by omega))
      have := ih (i + 1) (by omega)
      omega
    · exact ⟨Nat.le_refl _, hi⟩
theorem k_rl_le {g : Nat → Int32} {n a b p : Nat} (ha : a < 1000) (hp : p ≤ n) : p + k_rl g n a b p ≤ n := (k_rlf_le g n a b p ha hp n 0 hp).2
section
variable {l : Launch} {E : mE} {N : Nat} {xs : Nat → Int32} {d : Nat} {tg : Bool} {h : mH} {z tp tb p : Nat} {wr : Int32} {n : Nat} {g : Nat → Int32}
theorem t_at {p : Nat} (hp : p < 100000) (h2 : h[tp]? = some (k_tp tb n)) (h3 : h[tb]? = some (k_ba 400 g)) (hn : n ≤ 400) : m_Dt l (m_EX E N xs) E mM_X6_at d 0 0 [.ref tp, .int (nI p)] h tg (some (.int (k_at g n p))) h tg := by
  have hM := mM_X6_at_ok
  refine m_Sp_of (by decide) (Nat.le_of_ble_eq_true rfl) ?_
  refine m_J_run hM 2 rfl ⟨trivial, trivial, trivial⟩ ?_
  refine m_J_if (fun hc => absurd hc (nI_pos (by omega))) (fun _ => ?_)
  refine m_J_run hM 2 rfl ⟨trivial, trivial, trivial⟩ ?_
  refine m_J_getf hM rfl rfl (h2) (rfl) ?_
  refine m_J_run hM 1 rfl ⟨trivial, trivial⟩ ?_
  refine m_J_if (fun hc => ?_) (fun hc => ?_)
  · have hc2 : ¬ p < n := fun q => nI_ge q (by omega) hc
    refine m_J_run hM 1 rfl ⟨trivial, trivial⟩ ?_
    exact m_iret hM rfl rfl rfl (Nat.le_of_ble_eq_true rfl) (Nat.le_of_ble_eq_true rfl) (by rw [k_at, if_neg hc2]) (rfl)
  · have hc2 : p < n := by
      rcases Nat.lt_or_ge p n with q | q
      · exact q
      · exact absurd (nI_le q (by omega)) hc
    refine m_J_run hM 1 rfl ⟨trivial, trivial⟩ ?_
    refine m_J_getf hM rfl rfl (h2) (rfl) ?_
    refine m_J_run hM 1 rfl ⟨trivial, trivial⟩ ?_
    refine m_baldN hM rfl (h3) (by omega) (by omega) ?_
    refine m_J_run hM 3 rfl ⟨trivial, trivial, trivial, trivial⟩ ?_
    exact m_iret hM rfl rfl rfl (Nat.le_of_ble_eq_true rfl) (Nat.le_of_ble_eq_true rfl) (by rw [k_at, if_pos hc2]) (rfl)
theorem t_room (h2 : h[tp]? = some (k_tp tb n)) : m_Dt l (m_EX E N xs) E mM_X6_hasRoom d 0 0 [.ref tp] h tg (some (.int (k_z (decide (¬ nI 380 < nI n))))) h tg := by
  have hM := mM_X6_hasRoom_ok
  refine m_Sp_of (by decide) (Nat.le_of_ble_eq_true rfl) ?_
  refine m_J_run hM 1 rfl ⟨trivial, trivial⟩ ?_
  refine m_J_getf hM rfl rfl (h2) (rfl) ?_
  refine m_J_run hM 2 rfl ⟨trivial, trivial, trivial⟩ ?_
  refine m_J_if (fun hc => ?_) (fun hc => ?_)
  · refine m_J_run hM 1 rfl ⟨trivial, trivial⟩ ?_
    exact m_iret hM rfl rfl (by decide) (Nat.le_of_ble_eq_true rfl) (Nat.le_of_ble_eq_true rfl) (by simp [k_z, hc]) (rfl)
  · refine m_J_run hM 2 rfl ⟨trivial, trivial, trivial⟩ ?_
    exact m_iret hM rfl rfl (by decide) (Nat.le_of_ble_eq_true rfl) (Nat.le_of_ble_eq_true rfl) (by simp [k_z, hc]) (rfl)
theorem t_sb (hp : p ≤ n) (hT : k_TP h z tp tb p wr n g) : m_Dt l (m_EX E N xs) E mM_X3_skipBlanks (d + 1) 0 0 [.ref z] h tg none (h.set z (k_rd tp (k_sb g n p) wr)) tg := by
  have hM := mM_X3_skipBlanks_ok
  refine m_Sp_of (by decide) (Nat.le_of_ble_eq_true rfl) ?_
  have loop : ∀ (f p' : Nat) (H : mH), p' + f = n → k_TP H z tp tb p' wr n g → m_J l (m_EX E N xs) E mM_X3_skipBlanks (d + 1) 0 0 (m_K none (H.set z (k_rd tp (k_sbf g n f p') wr)) tg) m_no tg 0 0 (0, [some (.ref z)], [], H) := by
    intro f
    induction f with
    | zero =>
      intro p' H hp' hT
      obtain ⟨h1, h2, h3, h4⟩ := id hT
      refine m_J_run hM 1 rfl ⟨trivial, trivial⟩ ?_
      refine m_J_getf hM rfl rfl (h1) (rfl) ?_
      refine m_J_run hM 1 rfl ⟨trivial, trivial⟩ ?_
      refine m_J_getf hM rfl rfl (h1) (rfl) ?_
      refine m_J_getf hM rfl rfl (h2) (rfl) ?_
      refine m_J_run hM 1 rfl ⟨trivial, trivial⟩ ?_
      refine m_J_if (fun _ => ?_) (fun hc => absurd (nI_le (by omega) (by omega)) hc)
      exact m_vret hM rfl rfl (Nat.le_of_ble_eq_true rfl) (Nat.le_of_ble_eq_true rfl) (by rw [k_sbf, k_s0 h1])
    | succ f ih =>
      intro p' H hp' hT
      obtain ⟨h1, h2, h3, h4⟩ := id hT
      refine m_J_run hM 1 rfl ⟨trivial, trivial⟩ ?_
      refine m_J_getf hM rfl rfl (h1) (rfl) ?_
      refine m_J_run hM 1 rfl ⟨trivial, trivial⟩ ?_
      refine m_J_getf hM rfl rfl (h1) (rfl) ?_
      refine m_J_getf hM rfl rfl (h2) (rfl) ?_
      refine m_J_run hM 1 rfl ⟨trivial, trivial⟩ ?_
      refine m_J_if (fun hc => absurd hc (nI_ge (by omega) (by omega))) (fun _ => ?_)
      refine m_J_run hM 1 rfl ⟨trivial, trivial⟩ ?_
      refine m_J_getf hM rfl rfl (h1) (rfl) ?_
      refine m_J_run hM 1 rfl ⟨trivial, trivial⟩ ?_
      refine m_J_getf hM rfl rfl (h1) (rfl) ?_
      refine m_callV (as := [.int (nI p')]) (rest := []) (m_EX_warm E N xs) hM rfl kw_X3_30 rfl rfl (h2) ⟨_, rfl, rfl⟩ (t_at (by omega) h2 h3 h4) rfl (Nat.le_of_ble_eq_true rfl) (Nat.le_of_ble_eq_true rfl) (Nat.le_of_ble_eq_true rfl) (fun ht => ⟨ht, by simp⟩) ?_
      refine m_J_run hM 2 rfl ⟨trivial, trivial, trivial⟩ ?_
      refine m_J_if (fun hc => ?_) (fun hc => ?_)
      · exact m_vret hM rfl rfl (Nat.le_of_ble_eq_true rfl) (Nat.le_of_ble_eq_true rfl) (by rw [k_sbf, if_neg (fun q => hc q.2), k_s0 h1])
      · have hc2 := Classical.not_not.mp hc
        refine m_J_run hM 2 rfl ⟨trivial, trivial, trivial⟩ ?_
        refine m_J_getf hM rfl rfl (h1) (rfl) ?_
        refine m_J_run hM 2 rfl ⟨trivial, trivial, trivial⟩ ?_
        rw [← k_succ]
        refine m_J_putf hM rfl rfl (h1) (rfl) ?_
        refine m_J_run hM 1 rfl ⟨trivial, trivial⟩ ?_
        rw [k_sbf, if_pos ⟨by omega, hc2⟩]
        have h0 := ih (p' + 1) (H.set z (k_rd tp (p' + 1) wr)) (by omega) (k_TP_z hT)
        rw [k_s2] at h0
        exact h0
  exact loop (n - p) p h (by omega) hT
theorem t_rl {a b : Nat} (ha : a < 1000) (hb : b < 1000) (hp : p ≤ n) (hT : k_TP h z tp tb p wr n g) : m_Dt l (m_EX E N xs) E mM_X3_runLength (d + 1) 0 0 [.ref z, .int (nI a), .int (nI b)] h tg (some (.int (nI (k_rl g n a b p)))) h tg := by
  have hM := mM_X3_runLength_ok
  obtain ⟨h1, h2, h3, h4⟩ := id hT
  refine m_Sp_of (by decide) (Nat.le_of_ble_eq_true rfl) ?_
  refine m_J_run hM 2 rfl ⟨trivial, trivial, trivial⟩ ?_
  have loop : ∀ f i : Nat, i + f = n → m_J l (m_EX E N xs) E mM_X3_runLength (d + 1) 0 0 (m_K (some (.int (nI (k_rlf g n a b p f i)))) h tg) m_no tg 0 0 (2, [some (.ref z), some (.int (nI a)), some (.int (nI b)), some (.int (nI i))], [], h) := by
    intro f
    induction f with
    | zero =>
      intro i hi
      refine m_J_run hM 2 rfl ⟨trivial, trivial, trivial⟩ ?_
      refine m_J_getf hM rfl rfl (h1) (rfl) ?_
      refine m_J_getf hM rfl rfl (h2) (rfl) ?_
      refine m_J_run hM 1 rfl ⟨trivial, trivial⟩ ?_
      refine m_J_if (fun _ => ?_) (fun hc => absurd (nI_le (by omega) (by omega)) hc)
      refine m_J_run hM 1 rfl ⟨trivial, trivial⟩ ?_
      exact m_iret hM rfl rfl rfl (Nat.le_of_ble_eq_true rfl) (Nat.le_of_ble_eq_true rfl) (rfl) (rfl)
    | succ f ih =>
      intro i hi
      have stop : ∀ hno : ¬ (i < n ∧ ¬ k_at g n (p + i) < nI a ∧ ¬ nI b < k_at g n (p + i)), m_J l (m_EX E N xs) E mM_X3_runLength (d + 1) 0 0 (m_K (some (.int (nI (k_rlf g n a b p (f + 1) i)))) h tg) m_no tg 0 0 (53, [some (.ref z), some (.int (nI a)), some (.int (nI b)), some (.int (nI i))], [], h) := by
        intro hno
        refine m_J_run hM 1 rfl ⟨trivial, trivial⟩ ?_
        exact m_iret hM rfl rfl rfl (Nat.le_of_ble_eq_true rfl) (Nat.le_of_ble_eq_true rfl) (by rw [k_rlf, if_neg hno]) (rfl)
      refine m_J_run hM 2 rfl ⟨trivial, trivial, trivial⟩ ?_
      refine m_J_getf hM rfl rfl (h1) (rfl) ?_
      refine m_J_getf hM rfl rfl (h2) (rfl) ?_
      refine m_J_run hM 1 rfl ⟨trivial, trivial⟩ ?_
      refine m_J_if (fun hc => absurd hc (nI_ge (by omega) (by omega))) (fun _ => ?_)
      refine m_J_run hM 1 rfl ⟨trivial, trivial⟩ ?_
      refine m_J_getf hM rfl rfl (h1) (rfl) ?_
      refine m_J_run hM 1 rfl ⟨trivial, trivial⟩ ?_
      refine m_J_getf hM rfl rfl (h1) (rfl) ?_
      refine m_J_run hM 2 rfl ⟨trivial, trivial, trivial⟩ ?_
      rw [nI_add]
      refine m_callV (as := [.int (nI (p + i))]) (rest := []) (m_EX_warm E N xs) hM rfl kw_X3_30 rfl rfl (h2) ⟨_, rfl, rfl⟩ (t_at (by omega) h2 h3 h4) rfl (Nat.le_of_ble_eq_true rfl) (Nat.le_of_ble_eq_true rfl) (Nat.le_of_ble_eq_true rfl) (fun ht => ⟨ht, by simp⟩) ?_
      refine m_J_run hM 2 rfl ⟨trivial, trivial, trivial⟩ ?_
      refine m_J_if (fun hc1 => ?_) (fun hc1 => ?_)
      · exact stop (fun q => q.2.1 hc1)
      · refine m_J_run hM 1 rfl ⟨trivial, trivial⟩ ?_
        refine m_J_getf hM rfl rfl (h1) (rfl) ?_
        refine m_J_run hM 1 rfl ⟨trivial, trivial⟩ ?_
        refine m_J_getf hM rfl rfl (h1) (rfl) ?_
        refine m_J_run hM 2 rfl ⟨trivial, trivial, trivial⟩ ?_
        rw [nI_add]
        refine m_callV (as := [.int (nI (p + i))]) (rest := []) (m_EX_warm E N xs) hM rfl kw_X3_30 rfl rfl (h2) ⟨_, rfl, rfl⟩ (t_at (by omega) h2 h3 h4) rfl (Nat.le_of_ble_eq_true rfl) (Nat.le_of_ble_eq_true rfl) (Nat.le_of_ble_eq_true rfl) (fun ht => ⟨ht, by simp⟩) ?_
        refine m_J_run hM 2 rfl ⟨trivial, trivial, trivial⟩ ?_
        refine m_J_if (fun hc2 => ?_) (fun hc2 => ?_)
        · exact stop (fun q => q.2.2 hc2)
        · rw [k_rlf, if_pos ⟨by omega, hc1, hc2⟩]
          refine m_J_run hM 2 rfl ⟨trivial, trivial, trivial⟩ ?_
          refine m_eqS (ih (i + 1) (by omega)) ?_
          rw [k_succ i]
          rfl
  exact loop n 0 (by omega)
theorem t_ref (hT : k_TP h z tp tb p wr n g) : m_Dt l (m_EX E N xs) E mM_X3_refuseNext d 0 0 [.ref z] h tg none (h.set z (k_rd tp p (k_rf wr p))) tg := by
  have hM := mM_X3_refuseNext_ok
  obtain ⟨h1, h2, h3, h4⟩ := id hT
  refine m_Sp_of (by decide) (Nat.le_of_ble_eq_true rfl) ?_
  refine m_J_run hM 1 rfl ⟨trivial, trivial⟩ ?_
  refine m_J_getf hM rfl rfl (h1) (rfl) ?_
  refine m_J_run hM 2 rfl ⟨trivial, trivial, trivial⟩ ?_
  refine m_J_if (fun hc => ?_) (fun hc => ?_)
  · exact m_vret hM rfl rfl (Nat.le_of_ble_eq_true rfl) (Nat.le_of_ble_eq_true rfl) (by rw [k_rf, if_neg hc, k_s0 h1])
  · have hc2 := Classical.not_not.mp hc
    refine m_J_run hM 2 rfl ⟨trivial, trivial, trivial⟩ ?_
    refine m_J_getf hM rfl rfl (h1) (rfl) ?_
    refine m_J_putf hM rfl rfl (h1) (rfl) ?_
    exact m_vret hM rfl rfl (Nat.le_of_ble_eq_true rfl) (Nat.le_of_ble_eq_true rfl) (by rw [k_rf, if_pos hc2]; rfl)
end
