/-! TEXTS: length and charAt of the constants -/
theorem k_chr : ∀ c, c < 256 → ((nI c &&& nI 255).toUInt32 % 65536).toInt32 = nI c ∧ narrow .char (.int (nI c)) = .int (nI c) := by decide +kernel
theorem k_tx : ∀ i, i < 42 → (m_tx i).length < 100 ∧ ∀ c ∈ m_tx i, c < 256 := by decide +kernel
section
variable {l : Launch} {E : mE} {N : Nat} {xs : Nat → Int32} {d : Nat} {tg : Bool} {h : mH} {si : Nat}
theorem s_coder (hi : si < 42) : m_Dt l (m_EX E N xs) E mM_J0_coder_7d493 d 0 0 [.ref (1000001 + si)] h tg (some (.int 0)) h tg := by
  have hM := mM_J0_coder_7d493_ok
  refine m_Sp_of (by decide) (Nat.le_of_ble_eq_true rfl) ?_
  refine m_J_gcomp hM rfl (by decide +kernel) ?_
  refine m_J_run hM 1 rfl ⟨trivial, trivial⟩ ?_
  refine m_J_if (fun hc => absurd hc (by decide)) (fun _ => ?_)
  refine m_J_run hM 1 rfl ⟨trivial, trivial⟩ ?_
  refine m_J_scod hM rfl (by decide +kernel) hi ?_
  refine m_J_run hM 1 rfl ⟨trivial, trivial⟩ ?_
  exact m_iret hM rfl rfl (by decide) (Nat.le_refl _) (Nat.le_refl _) rfl rfl
theorem s_latin (hi : si < 42) : m_Dt l (m_EX E N xs) E mM_J0_isLatin1_aae02 d 0 0 [.ref (1000001 + si)] h tg (some (.int (nI 1))) h tg := by
  have hM := mM_J0_isLatin1_aae02_ok
  refine m_Sp_of (by decide) (Nat.le_of_ble_eq_true rfl) ?_
  refine m_J_gcomp hM rfl (by decide +kernel) ?_
  refine m_J_run hM 1 rfl ⟨trivial, trivial⟩ ?_
  refine m_J_if (fun hc => absurd hc (by decide)) (fun _ => ?_)
  refine m_J_run hM 1 rfl ⟨trivial, trivial⟩ ?_
  refine m_J_scod hM rfl (by decide +kernel) hi ?_
  refine m_J_run hM 1 rfl ⟨trivial, trivial⟩ ?_
  refine m_J_if (fun hc => absurd rfl hc) (fun _ => ?_)
  refine m_J_run hM 2 rfl ⟨trivial, trivial, trivial⟩ ?_
  exact m_iret hM rfl rfl (by decide) (Nat.le_refl _) (Nat.le_refl _) rfl rfl
theorem s_length (hi : si < 42) : m_Dt l (m_EX E N xs) E mM_J0_length_8abf5 (d + 1) 0 0 [.ref (1000001 + si)] h tg (some (.int (nI (m_tx si).length))) h tg := by
  have hM := mM_J0_length_8abf5_ok
  refine m_Sp_of (by decide) (Nat.le_of_ble_eq_true rfl) ?_
  refine m_J_run hM 1 rfl ⟨trivial, trivial⟩ ?_
  refine m_J_sval hM rfl (by decide +kernel) hi ?_
  refine m_J_slen hM rfl hi ?_
  refine m_J_run hM 1 rfl ⟨trivial, trivial⟩ ?_
  refine m_callT (as := []) hM rfl kw_J0_335 rfl rfl rfl hi (s_coder hi) rfl (Nat.le_of_ble_eq_true rfl) (Nat.le_refl _) (Nat.le_refl _) ?_
  refine m_J_run hM 1 rfl ⟨trivial, trivial⟩ ?_
  exact m_iret hM rfl rfl rfl (Nat.le_refl _) (Nat.le_refl _) (sb_shr0 _) rfl
theorem s_check {k n : Nat} {v : Value} (hv : v = .null ∨ v = .ref 3000000) (hk : k < n) (hn : n < 2 ^ 31) : m_Dt l (m_EX E N xs) E mM_J3_checkIndex_8e157 d 0 0 [.int (nI k), .int (nI n), v] h tg (some (.int (nI k))) h tg := by
  have hM := mM_J3_checkIndex_8e157_ok
  have key : ∀ L : List (Option Value), L.length = 3 → L[0]? = some (some (.int (nI k))) → L[1]? = some (some (.int (nI n))) → m_J l (m_EX E N xs) E mM_J3_checkIndex_8e157 d 0 0 (m_K (some (.int (nI k))) h tg) m_no tg 0 0 (0, L, [], h) := by
    intro L hl h0 h1
    obtain ⟨a, b, c, rfl⟩ : ∃ a b c, L = [a, b, c] := by
      match L, hl with
      | [a, b, c], _ => exact ⟨a, b, c, rfl⟩
    simp at h0 h1
    subst h0; subst h1
    refine m_J_run hM 2 rfl ⟨trivial, trivial, trivial⟩ ?_
    refine m_J_if (fun hc => absurd hc (nI_pos (by omega))) (fun _ => ?_)
    refine m_J_run hM 3 rfl ⟨trivial, trivial, trivial, trivial⟩ ?_
    refine m_J_if (fun _ => ?_) (fun hc => absurd (nI_lt hk hn) hc)
    refine m_J_run hM 1 rfl ⟨trivial, trivial⟩ ?_
    exact m_iret hM rfl rfl rfl (Nat.le_refl _) (Nat.le_refl _) rfl rfl
  rcases hv with rfl | rfl
  · exact m_Sp_of (by decide) (Nat.le_of_ble_eq_true rfl) (key _ rfl rfl rfl)
  · exact m_Sp_of (by decide) (Nat.le_of_ble_eq_true rfl) (key _ rfl rfl rfl)
theorem s_check2 {k n : Nat} (hk : k < n) (hn : n < 2 ^ 31) : m_Dt l (m_EX E N xs) E mM_J0_checkIndex_df160 (d + 1) 0 0 [.int (nI k), .int (nI n)] h tg none h tg := by
  have hM := mM_J0_checkIndex_df160_ok
  refine m_Sp_of (by decide) (Nat.le_of_ble_eq_true rfl) ?_
  refine m_J_run hM 2 rfl ⟨trivial, trivial, trivial⟩ ?_
  refine m_J_gform hM rfl (by decide +kernel) (fun v hv => ?_)
  refine m_callS (as := [.int (nI k), .int (nI n), v]) (rest := []) (m_EX_warm E N xs) hM rfl kw_J0_1059 rfl (s_check hv hk hn) rfl (Nat.le_of_ble_eq_true rfl) (Nat.le_refl _) (Nat.le_refl _) (fun ht => ⟨ht, Nat.le_refl _⟩) ?_
  refine m_J_run hM 1 rfl ⟨trivial, trivial⟩ ?_
  exact m_vret hM rfl rfl (Nat.le_refl _) (Nat.le_refl _) rfl
theorem s_lat {k : Nat} (hi : si < 42) (hk : k < (m_tx si).length) : m_Dt l (m_EX E N xs) E mM_J1_charAt_3b067 (d + 2) 0 0 [.ref (2000001 + si), .int (nI k)] h tg (some (.int (nI ((m_tx si).getD k 0)))) h tg := by
  have hM := mM_J1_charAt_3b067_ok
  have hl := (k_tx si hi).1
  have hc : (m_tx si).getD k 0 < 256 := (k_tx si hi).2 _ (by rw [List.getD_eq_getElem?_getD, List.getElem?_eq_getElem hk]; exact List.getElem_mem hk)
  refine m_Sp_of (by decide) (Nat.le_of_ble_eq_true rfl) ?_
  refine m_J_run hM 2 rfl ⟨trivial, trivial, trivial⟩ ?_
  refine m_J_slen hM rfl hi ?_
  refine m_callS (as := [.int (nI k), .int (nI (m_tx si).length)]) (rest := []) (m_EX_warm E N xs) hM rfl kw_J1_9 rfl (s_check2 hk (by omega)) rfl (Nat.le_of_ble_eq_true rfl) (Nat.le_refl _) (Nat.le_refl _) (fun ht => ⟨ht, Nat.le_refl _⟩) ?_
  refine m_J_run hM 2 rfl ⟨trivial, trivial, trivial⟩ ?_
  refine m_J_sbyt hM rfl hi hk (by omega) ?_
  refine m_J_run hM 2 rfl ⟨trivial, trivial, trivial⟩ ?_
  refine m_J_i2c hM rfl ?_
  rw [(k_chr _ hc).1]
  exact m_iret hM rfl rfl (k_chr _ hc).2 (Nat.le_refl _) (Nat.le_refl _) rfl rfl
theorem s_char {k : Nat} (hi : si < 42) (hk : k < (m_tx si).length) : m_Dt l (m_EX E N xs) E mM_J0_charAt_5068e (d + 3) 0 0 [.ref (1000001 + si), .int (nI k)] h tg (some (.int (nI ((m_tx si).getD k 0)))) h tg := by
  have hM := mM_J0_charAt_5068e_ok
  have hc : (m_tx si).getD k 0 < 256 := (k_tx si hi).2 _ (by rw [List.getD_eq_getElem?_getD, List.getElem?_eq_getElem hk]; exact List.getElem_mem hk)
  refine m_Sp_of (by decide) (Nat.le_of_ble_eq_true rfl) ?_
  refine m_J_run hM 1 rfl ⟨trivial, trivial⟩ ?_
  refine m_callT (as := []) hM rfl kw_J0_492 rfl rfl rfl hi (s_latin hi) rfl (Nat.le_of_ble_eq_true rfl) (Nat.le_refl _) (Nat.le_refl _) ?_
  refine m_J_run hM 1 rfl ⟨trivial, trivial⟩ ?_
  refine m_J_if (fun hc => absurd hc (by decide)) (fun _ => ?_)
  refine m_J_run hM 1 rfl ⟨trivial, trivial⟩ ?_
  refine m_J_sval hM rfl (by decide +kernel) hi ?_
  refine m_J_run hM 1 rfl ⟨trivial, trivial⟩ ?_
  refine m_callS (as := [.ref (2000001 + si), .int (nI k)]) (rest := []) (m_EX_warm E N xs) hM rfl kw_J0_495 rfl (s_lat hi hk) rfl (Nat.le_of_ble_eq_true rfl) (Nat.le_refl _) (Nat.le_refl _) (fun ht => ⟨ht, Nat.le_refl _⟩) ?_
  exact m_iret hM rfl rfl (k_chr _ hc).2 (Nat.le_refl _) (Nat.le_refl _) rfl rfl
end
