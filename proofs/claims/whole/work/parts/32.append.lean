/-! TAPE: four bytes of a number -/
/-- byte j of x, as it lies on the tape -/
def k_by (x : Int32) (j : Nat) : Int32 := vp_nar .byte (x >>> (nI (24 - 8 * j) &&& 31)).toInt8.toInt32
def k_ap (g : Nat → Int32) (n : Nat) (x : Int32) : Nat → (Nat → Int32)
  | 0 => g
  | j + 1 => upd (k_ap g n x j) (n + j) (k_by x j)
section
variable {l : Launch} {E : mE} {N : Nat} {xs : Nat → Int32} {d : Nat} {tg : Bool} {h : mH} {tp tb n : Nat} {g : Nat → Int32} {x : Int32}
theorem t_append (h2 : h[tp]? = some (k_tp tb n)) (h3 : h[tb]? = some (k_ba 400 g)) (hn : n ≤ 396) : m_Dt l (m_EX E N xs) E mM_X6_append d 0 0 [.ref tp, .int x] h tg none ((h.set tb (k_ba 400 (k_ap g n x 4))).set tp (k_tp tb (n + 4))) tg := by
  have hM := mM_X6_append_ok
  refine m_Sp_of (by decide) (Nat.le_of_ble_eq_true rfl) ?_
  refine m_J_run hM 2 rfl ⟨trivial, trivial, trivial⟩ ?_
  have hne : tp ≠ tb := k_ne h2 h3
  have one : ∀ (j : Nat) (H : mH), j < 4 → H[tp]? = some (k_tp tb (n + j)) → H[tb]? = some (k_ba 400 (k_ap g n x j)) → m_J l (m_EX E N xs) E mM_X6_append d 0 0 (m_K none ((h.set tb (k_ba 400 (k_ap g n x 4))).set tp (k_tp tb (n + 4))) tg) m_no tg 0 0 (3, [some (.ref tp), some (.int x), some (.int (nI (24 - 8 * j) + -nI 8))], [], (H.set tb (k_ba 400 (k_ap g n x (j + 1)))).set tp (k_tp tb (n + (j + 1)))) → m_J l (m_EX E N xs) E mM_X6_append d 0 0 (m_K none ((h.set tb (k_ba 400 (k_ap g n x 4))).set tp (k_tp tb (n + 4))) tg) m_no tg 0 0 (3, [some (.ref tp), some (.int x), some (.int (nI (24 - 8 * j)))], [], H) := by
    intro j H hj h2 h3 hJ
    refine m_J_run hM 2 rfl ⟨trivial, trivial, trivial⟩ ?_
    refine m_J_if (fun hc => absurd hc (nI_pos (by omega))) (fun _ => ?_)
    refine m_J_run hM 1 rfl ⟨trivial, trivial⟩ ?_
    refine m_J_getf hM rfl rfl (h2) (rfl) ?_
    refine m_J_run hM 2 rfl ⟨trivial, trivial, trivial⟩ ?_
    refine m_J_if (fun hc => absurd hc (nI_ge (by omega) (by omega))) (fun _ => ?_)
    refine m_J_run hM 1 rfl ⟨trivial, trivial⟩ ?_
    refine m_J_getf hM rfl rfl (h2) (rfl) ?_
    refine m_J_run hM 1 rfl ⟨trivial, trivial⟩ ?_
    refine m_J_getf hM rfl rfl (h2) (rfl) ?_
    refine m_J_run hM 4 rfl ⟨trivial, trivial, trivial, trivial, trivial⟩ ?_
    refine m_bastN hM rfl (h3) (by omega) (by omega) ?_
    refine m_J_run hM 2 rfl ⟨trivial, trivial, trivial⟩ ?_
    refine m_J_getf hM rfl rfl (k_sn hne h2) (rfl) ?_
    refine m_J_run hM 2 rfl ⟨trivial, trivial, trivial⟩ ?_
    refine m_J_putf hM rfl rfl (k_sn hne h2) (rfl) ?_
    refine m_J_run hM 2 rfl ⟨trivial, trivial, trivial⟩ ?_
    refine m_J_eqH ?_ hJ
    show _ = (H.set tb _).set tp (Sum.inr (5, [Value.ref tb, Value.int (nI (n + j + 1))]))
    rw [k_succ (n + j)]
    rfl
  have col : ∀ (a b c e : va_E), (((h.set tb a).set tp b).set tb c).set tp e = (h.set tb c).set tp e := by
    intro a b c e
    rw [List.set_comm _ _ hne, k_s2, k_s2]
  refine one 0 h (by omega) h2 h3 ?_
  rw [show nI (24 - 8 * 0) + -nI 8 = nI (24 - 8 * 1) by decide]
  refine one 1 _ (by omega) (k_ss (k_sn hne h2)) (k_sn (Ne.symm hne) (k_ss h3)) ?_
  rw [show nI (24 - 8 * 1) + -nI 8 = nI (24 - 8 * 2) by decide, col]
  refine one 2 _ (by omega) (k_ss (k_sn hne h2)) (k_sn (Ne.symm hne) (k_ss h3)) ?_
  rw [show nI (24 - 8 * 2) + -nI 8 = nI (24 - 8 * 3) by decide, col]
  refine one 3 _ (by omega) (k_ss (k_sn hne h2)) (k_sn (Ne.symm hne) (k_ss h3)) ?_
  rw [show nI (24 - 8 * 3) + -nI 8 = -nI 8 by decide, col]
  refine m_J_run hM 2 rfl ⟨trivial, trivial, trivial⟩ ?_
  refine m_J_if (fun _ => ?_) (fun hc => absurd (by decide) hc)
  exact m_vret hM rfl rfl (Nat.le_of_ble_eq_true rfl) (Nat.le_of_ble_eq_true rfl) (rfl)
end
