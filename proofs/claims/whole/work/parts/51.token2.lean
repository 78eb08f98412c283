/-! THE MODEL: numbers, uses (written by wip/gen_model11.py) -/
section
variable {l : Launch} {E : mE} {N : Nat} {xs : Nat → Int32} {d : Nat} {tg : Bool} {Z : mH} {h : mH}
variable {th : Int32} {u : Nat → Int32} {so : Nat → Int32} {fz : Nat → Bool} {fs : Nat} {gt : Nat} {yr : Nat} {aK : Nat → Int32} {aO : Nat → Int32} {aT : Nat → Int32} {aH : Nat → Int32} {aW : Nat → Int32} {aS : Nat → Int32} {aL : Nat → Int32} {ls : Nat} {pl : Nat → Int32} {ps : Nat} {tp : Nat → Int32} {td : Nat} {pt : Nat} {en : Nat} {bg : Nat} {fa : Int32} {fv : Nat → Int32} {mt : Nat → Bool} {nx : Nat → Int32} {pL : Nat → Nat} {sg : Nat → Int32} {bo : Nat → Int32} {wa : Nat → Int32} {gv : Nat → Int32} {bw : Int32} {of : Nat → Int32} {o : mH}
set_option maxHeartbeats 2000000 in
theorem y_number (hZ : Z.length = 70) (hby : ∀ p, p < 400 → k_isb (tp p)) (hen : en ≤ 400) {lo hi : Nat} (hlh : lo ≤ hi) (hh : hi < 1000) (hpt : pt ≤ en) : m_Dt l (m_EX E N xs) E mM_X9_number (d + 2) 0 0 [.ref 70, .int (nI lo), .int (nI hi)] (Z ++ k_M th u so fz fs gt yr aK aO aT aH aW aS aL ls pl ps tp td pt en bg fa fv mt nx pL sg bo wa gv bw of o) tg (some (.int (k_on (y_num tp en pt lo hi)))) (Z ++ k_M th u so fz fs gt yr aK aO aT aH aW aS aL ls pl ps tp td (y_np tp en pt) en (k_sb tp en pt) fa fv mt nx pL sg bo wa gv bw of o) tg := by
  have hM := mM_X9_number_ok
  refine m_Sp_of (by decide) (Nat.le_of_ble_eq_true rfl) ?_
  refine m_J_run hM 1 rfl ⟨trivial, trivial⟩ ?_
  refine m_cV0 hZ hM rfl kw_X9_132 rfl rfl rfl (y_blanks hZ hby hen (by omega)) rfl (Nat.le_of_ble_eq_true rfl) ?_
  refine m_J_run hM 2 rfl ⟨trivial, trivial, trivial⟩ ?_
  have hb := (k_sb_le (g := tp) hpt).2
  have hnu := (k_nu_ok (g := tp) (n := en) (p := pt) hlh hh).2.2
  have hok : k_nok tp en pt lo hi = decide (¬ k_rl tp en 48 57 (k_sb tp en pt) < 1 ∧ k_rl tp en 48 57 (k_sb tp en pt) ≤ 2 ∧ ¬ k_nm tp en (k_sb tp en pt) (k_rl tp en 48 57 (k_sb tp en pt)) < nI lo ∧ k_nm tp en (k_sb tp en pt) (k_rl tp en 48 57 (k_sb tp en pt)) ≤ nI hi) := rfl
  unfold y_np y_num
  generalize k_sb tp en pt = b0 at hb hnu hok ⊢
  generalize k_nok tp en pt lo hi = ok at hnu hok ⊢
  have FIN : ∀ (i : Nat), b0 + i ≤ en → k_rl tp en 48 57 b0 = i → m_J l (m_EX E N xs) E mM_X9_number (d + 2) 0 0 (m_K (some (.int (k_on ((if ok = true then some (k_nu tp en pt lo hi) else none))))) (Z ++ k_M th u so fz fs gt yr aK aO aT aH aW aS aL ls pl ps tp td (b0 + k_rl tp en 48 57 b0) en b0 fa fv mt nx pL sg bo wa gv bw of o) tg) m_no tg 0 0 (65, [some (.ref 70), some (.int (nI lo)), some (.int (nI hi)), some (.int (k_nm tp en b0 (min i 2)))], [], (Z ++ k_M th u so fz fs gt yr aK aO aT aH aW aS aL ls pl ps tp td (b0 + i) en b0 fa fv mt nx pL sg bo wa gv bw of o)) := by
    intro i hi hr
    rw [hr] at hok hnu ⊢
    refine m_J_run hM 1 rfl ⟨trivial, trivial⟩ ?_
    refine m_J_getf hM rfl rfl (kZ hZ 0 rfl) (rfl) ?_
    refine m_J_run hM 1 rfl ⟨trivial, trivial⟩ ?_
    refine m_J_getf hM rfl rfl (kZ hZ 0 rfl) (rfl) ?_
    refine m_J_run hM 1 rfl ⟨trivial, trivial⟩ ?_
    refine m_J_if (fun h1 => ?_) (fun h1 => ?_)
    ·
      rw [nI_eq (by omega) (by omega)] at h1
      refine m_J_run hM 2 rfl ⟨trivial, trivial, trivial⟩ ?_
      exact m_iret hM rfl rfl (rfl) (Nat.le_of_ble_eq_true rfl) (Nat.le_of_ble_eq_true rfl) (by rw [hok, decide_eq_false (fun r => r.1 (by omega))]; rfl) (rfl)
    ·
      rw [nI_eq (by omega) (by omega)] at h1
      refine m_J_run hM 1 rfl ⟨trivial, trivial⟩ ?_
      refine m_J_getf hM rfl rfl (kZ hZ 0 rfl) (rfl) ?_
      refine m_J_run hM 1 rfl ⟨trivial, trivial⟩ ?_
      refine m_J_getf hM rfl rfl (kZ hZ 0 rfl) (rfl) ?_
      refine m_J_run hM 2 rfl ⟨trivial, trivial, trivial⟩ ?_
      rw [show nI (b0 + i) - nI b0 = nI ((b0 + i) - b0) from pk_sub (by omega)]
      refine m_J_run hM 1 rfl ⟨trivial, trivial⟩ ?_
      refine m_J_if (fun h2 => ?_) (fun h2 => ?_)
      ·
        rw [nI_ltI (by omega) (by omega)] at h2
        refine m_J_run hM 2 rfl ⟨trivial, trivial, trivial⟩ ?_
        exact m_iret hM rfl rfl (rfl) (Nat.le_of_ble_eq_true rfl) (Nat.le_of_ble_eq_true rfl) (by rw [hok, decide_eq_false (fun r => absurd r.2.1 (by omega))]; rfl) (rfl)
      ·
        rw [nI_ltI (by omega) (by omega)] at h2
        rw [show min i 2 = i by omega]
        refine m_J_run hM 2 rfl ⟨trivial, trivial, trivial⟩ ?_
        refine m_J_run hM 1 rfl ⟨trivial, trivial⟩ ?_
        refine m_J_if (fun h3 => ?_) (fun h3 => ?_)
        ·
          refine m_J_run hM 2 rfl ⟨trivial, trivial, trivial⟩ ?_
          exact m_iret hM rfl rfl (rfl) (Nat.le_of_ble_eq_true rfl) (Nat.le_of_ble_eq_true rfl) (by rw [hok, decide_eq_false (fun r => r.2.2.1 h3)]; rfl) (rfl)
        ·
          refine m_J_run hM 2 rfl ⟨trivial, trivial, trivial⟩ ?_
          refine m_J_run hM 1 rfl ⟨trivial, trivial⟩ ?_
          refine m_J_if (fun h4 => ?_) (fun h4 => ?_)
          ·
            have hT : ok = true := by rw [hok]; exact decide_eq_true ⟨by omega, by omega, h3, h4⟩
            refine m_J_run hM 1 rfl ⟨trivial, trivial⟩ ?_
            exact m_iret hM rfl rfl (rfl) (Nat.le_of_ble_eq_true rfl) (Nat.le_of_ble_eq_true rfl) (by rw [if_pos hT, k_on_s]; exact hnu hT) (rfl)
          ·
            refine m_J_run hM 2 rfl ⟨trivial, trivial, trivial⟩ ?_
            exact m_iret hM rfl rfl (rfl) (Nat.le_of_ble_eq_true rfl) (Nat.le_of_ble_eq_true rfl) (by rw [hok, decide_eq_false (fun r => h4 r.2.2.2)]; rfl) (rfl)
  have LP : ∀ (f i : Nat), i + f = en → b0 + i ≤ en → k_rl tp en 48 57 b0 = k_rlf tp en 48 57 b0 f i → m_J l (m_EX E N xs) E mM_X9_number (d + 2) 0 0 (m_K (some (.int (k_on ((if ok = true then some (k_nu tp en pt lo hi) else none))))) (Z ++ k_M th u so fz fs gt yr aK aO aT aH aW aS aL ls pl ps tp td (b0 + k_rl tp en 48 57 b0) en b0 fa fv mt nx pL sg bo wa gv bw of o) tg) m_no tg 0 0 (6, [some (.ref 70), some (.int (nI lo)), some (.int (nI hi)), some (.int (k_nm tp en b0 (min i 2)))], [], (Z ++ k_M th u so fz fs gt yr aK aO aT aH aW aS aL ls pl ps tp td (b0 + i) en b0 fa fv mt nx pL sg bo wa gv bw of o)) := by
    intro f
    induction f with
    | zero =>
      intro i hi hbi h0
      refine m_J_run hM 3 rfl ⟨trivial, trivial, trivial, trivial⟩ ?_
      refine m_cV2 hZ hM rfl kw_X9_125 rfl rfl rfl (y_isAt hZ hby hen (by omega) (by omega) (by omega)) rfl (Nat.le_of_ble_eq_true rfl) ?_
      rw [y_ia_e (by omega)]
      refine m_J_run hM 1 rfl ⟨trivial, trivial⟩ ?_
      refine m_J_if (fun _ => ?_) (fun hc => absurd (by decide) hc)
      exact FIN i hbi h0
    | succ f ih =>
      intro i hi hbi h0
      rw [k_rlf] at h0
      refine m_J_run hM 3 rfl ⟨trivial, trivial, trivial, trivial⟩ ?_
      refine m_cV2 hZ hM rfl kw_X9_125 rfl rfl rfl (y_isAt hZ hby hen (by omega) (by omega) (by omega)) rfl (Nat.le_of_ble_eq_true rfl) ?_
      have hia := y_ia_r (g := tp) (n := en) (p := b0) (i := i) (a := 48) (b := 57) (by omega) (by omega) (by omega)
      cases h1 : y_ia tp en (b0 + i) 48 57 with
      | false =>
        refine m_J_run hM 1 rfl ⟨trivial, trivial⟩ ?_
        refine m_J_if (fun _ => ?_) (fun hc => absurd (by decide) hc)
        rw [h1] at hia
        rw [if_neg (of_decide_eq_false hia.symm)] at h0
        exact FIN i hbi h0
      | true =>
        refine m_J_run hM 1 rfl ⟨trivial, trivial⟩ ?_
        refine m_J_if (fun hc => absurd hc (by decide)) (fun _ => ?_)
        rw [h1] at hia
        rw [if_pos (of_decide_eq_true hia.symm)] at h0
        have hlt := (of_decide_eq_true h1)
        have hv : tp (b0 + i) = k_at tp en (b0 + i) := by
          have h5 := (k_isb_in (hby (b0 + i) (by omega)) (a := 48) (b := 57) (by omega) (by omega)).mpr (by rw [← k_at_lt (n := en) hlt.1]; exact hlt.2)
          rw [k_at_lt hlt.1, k_isb_v (hby (b0 + i) (by omega)) (a := 48) (b := 57) (by omega) (by omega) h5]
        have hlt1 := hlt.1
        refine m_J_run hM 1 rfl ⟨trivial, trivial⟩ ?_
        refine m_J_getf hM rfl rfl (kZ hZ 0 rfl) (rfl) ?_
        refine m_J_run hM 1 rfl ⟨trivial, trivial⟩ ?_
        refine m_J_getf hM rfl rfl (kZ hZ 0 rfl) (rfl) ?_
        refine m_J_run hM 2 rfl ⟨trivial, trivial, trivial⟩ ?_
        rw [show nI (b0 + i) - nI b0 = nI ((b0 + i) - b0) from pk_sub (by omega)]
        refine m_J_run hM 1 rfl ⟨trivial, trivial⟩ ?_
        refine m_J_if (fun h2 => ?_) (fun h2 => ?_)
        ·
          rw [nI_leI (by omega) (by omega)] at h2
          refine m_J_run hM 4 rfl ⟨trivial, trivial, trivial, trivial, trivial⟩ ?_
          refine m_J_getf hM rfl rfl (kZ hZ 0 rfl) (rfl) ?_
          refine m_J_run hM 2 rfl ⟨trivial, trivial, trivial⟩ ?_
          rw [nI_add (b0 + i) 1]
          refine m_J_putf hM rfl rfl (kZ hZ 0 rfl) (rfl) ?_
          refine m_J_eqH (H' := (Z ++ k_M th u so fz fs gt yr aK aO aT aH aW aS aL ls pl ps tp td ((b0 + i) + 1) en b0 fa fv mt nx pL sg bo wa gv bw of o)) (kZs hZ 0 rfl) ?_
          refine m_J_run hM 1 rfl ⟨trivial, trivial⟩ ?_
          have h9 := ih (i + 1) (by omega) (by omega) h0
          rw [show min (i + 1) 2 = min i 2 by omega] at h9
          exact h9
        ·
          rw [nI_leI (by omega) (by omega)] at h2
          refine m_J_run hM 4 rfl ⟨trivial, trivial, trivial, trivial, trivial⟩ ?_
          refine m_J_getf hM rfl rfl (kZ hZ 0 rfl) (rfl) ?_
          refine m_J_run hM 1 rfl ⟨trivial, trivial⟩ ?_
          refine m_J_getf hM rfl rfl (kZ hZ 0 rfl) (rfl) ?_
          refine m_baldN hM rfl (kZ hZ 12 rfl) (by omega) (by omega) ?_
          refine m_J_run hM 7 rfl ⟨trivial, trivial, trivial, trivial, trivial, trivial, trivial, trivial⟩ ?_
          refine m_J_getf hM rfl rfl (kZ hZ 0 rfl) (rfl) ?_
          refine m_J_run hM 2 rfl ⟨trivial, trivial, trivial⟩ ?_
          rw [nI_add (b0 + i) 1]
          refine m_J_putf hM rfl rfl (kZ hZ 0 rfl) (rfl) ?_
          refine m_J_eqH (H' := (Z ++ k_M th u so fz fs gt yr aK aO aT aH aW aS aL ls pl ps tp td ((b0 + i) + 1) en b0 fa fv mt nx pL sg bo wa gv bw of o)) (kZs hZ 0 rfl) ?_
          refine m_J_run hM 1 rfl ⟨trivial, trivial⟩ ?_
          have h9 := ih (i + 1) (by omega) (by omega) h0
          rw [show k_nm tp en b0 (min (i + 1) 2) = (((nI 10) * (k_nm tp en b0 (min i 2))) + (tp (b0 + i))) - (nI 48) by rw [show min (i + 1) 2 = i + 1 by omega, show min i 2 = i by omega, hv]; rfl] at h9
          exact h9
  exact LP en 0 (by omega) (by omega) rfl
set_option maxHeartbeats 2000000 in
theorem y_need (hZ : Z.length = 70) (hby : ∀ p, p < 400 → k_isb (tp p)) (hen : en ≤ 400) {si : Nat} (hsi : si < 42) (hpt : pt ≤ en) : m_Dt l (m_EX E N xs) E mM_X9_need (d + 5) 0 0 [.ref 70, .ref (1000001 + si)] (Z ++ k_M th u so fz fs gt yr aK aO aT aH aW aS aL ls pl ps tp td pt en bg fa fv mt nx pL sg bo wa gv bw of o) tg (some (.int (k_z (k_swb tp en pt si)))) (Z ++ k_M th u so fz fs gt yr aK aO aT aH aW aS aL ls pl ps tp td (y_wp tp en pt) en (k_sb tp en pt) fa fv mt nx pL sg bo wa gv bw of o) tg := by
  have hM := mM_X9_need_ok
  refine m_Sp_of (by decide) (Nat.le_of_ble_eq_true rfl) ?_
  refine m_J_run hM 1 rfl ⟨trivial, trivial⟩ ?_
  refine m_cV0 hZ hM rfl kw_X9_145 rfl rfl rfl (y_word hZ hby hen (by omega)) rfl (Nat.le_of_ble_eq_true rfl) ?_
  refine m_J_run hM 2 rfl ⟨trivial, trivial, trivial⟩ ?_
  refine m_cV1 hZ hM rfl kw_X9_148 rfl rfl rfl (y_isWord hZ hby hen (b0 := (k_sb tp en pt)) (r := k_rl tp en 97 122 (k_sb tp en pt)) (si := si) (by omega) (k_rl_le (by omega) (k_sb_le hpt).2)) rfl (Nat.le_of_ble_eq_true rfl) ?_
  refine m_J_eqH (H' := (Z ++ k_M th u so fz fs gt yr aK aO aT aH aW aS aL ls pl ps tp td (y_wp tp en pt) en (k_sb tp en pt) fa fv mt nx pL sg bo wa gv bw of o)) rfl ?_
  show m_J _ _ _ _ _ _ _ _ _ _ _ _ (_, _, Value.int (k_z (k_swb tp en pt si)) :: _, _)
  exact m_iret hM rfl rfl (k_z_nar _) (Nat.le_of_ble_eq_true rfl) (Nat.le_of_ble_eq_true rfl) (rfl) (rfl)
set_option maxHeartbeats 2000000 in
theorem y_useOf (hZ : Z.length = 70) (hby : ∀ p, p < 400 → k_isb (tp p)) (hen : en ≤ 400) {p : Nat} (hpt : p ≤ en) : m_Dt l (m_EX E N xs) E mM_X9_useOf (d + 5) 0 0 [.ref 70] (Z ++ k_M th u so fz fs gt yr aK aO aT aH aW aS aL ls pl ps tp td (y_wp tp en p) en (k_sb tp en p) fa fv mt nx pL sg bo wa gv bw of o) tg (some (.int (k_on (y_uq tp en p)))) (Z ++ k_M th u so fz fs gt yr aK aO aT aH aW aS aL ls pl ps tp td (y_wp tp en p) en (k_sb tp en p) fa fv mt nx pL sg bo wa gv bw of o) tg := by
  have hM := mM_X9_useOf_ok
  refine m_Sp_of (by decide) (Nat.le_of_ble_eq_true rfl) ?_
  refine m_J_run hM 1 rfl ⟨trivial, trivial⟩ ?_
  refine m_J_ldcS (si := 27) hM rfl rfl ?_
  refine m_cV1 hZ hM rfl kw_X9_148 rfl rfl rfl (y_isWord hZ hby hen (b0 := (k_sb tp en p)) (r := k_rl tp en 97 122 (k_sb tp en p)) (si := 27) (by omega) (k_rl_le (by omega) (k_sb_le hpt).2)) rfl (Nat.le_of_ble_eq_true rfl) ?_
  refine m_J_eqH (H' := (Z ++ k_M th u so fz fs gt yr aK aO aT aH aW aS aL ls pl ps tp td (y_wp tp en p) en (k_sb tp en p) fa fv mt nx pL sg bo wa gv bw of o)) rfl ?_
  show m_J _ _ _ _ _ _ _ _ _ _ _ _ (_, _, Value.int (k_z (k_swb tp en p 27)) :: _, _)
  cases h0 : k_swb tp en p 27 with
  | false =>
    refine m_J_run hM 1 rfl ⟨trivial, trivial⟩ ?_
    refine m_J_if (fun _ => ?_) (fun hc => absurd (by decide) hc)
    refine m_J_run hM 1 rfl ⟨trivial, trivial⟩ ?_
    refine m_J_ldcS (si := 28) hM rfl rfl ?_
    refine m_cV1 hZ hM rfl kw_X9_148 rfl rfl rfl (y_isWord hZ hby hen (b0 := (k_sb tp en p)) (r := k_rl tp en 97 122 (k_sb tp en p)) (si := 28) (by omega) (k_rl_le (by omega) (k_sb_le hpt).2)) rfl (Nat.le_of_ble_eq_true rfl) ?_
    refine m_J_eqH (H' := (Z ++ k_M th u so fz fs gt yr aK aO aT aH aW aS aL ls pl ps tp td (y_wp tp en p) en (k_sb tp en p) fa fv mt nx pL sg bo wa gv bw of o)) rfl ?_
    show m_J _ _ _ _ _ _ _ _ _ _ _ _ (_, _, Value.int (k_z (k_swb tp en p 28)) :: _, _)
    cases h1 : k_swb tp en p 28 with
    | false =>
      refine m_J_run hM 1 rfl ⟨trivial, trivial⟩ ?_
      refine m_J_if (fun _ => ?_) (fun hc => absurd (by decide) hc)
      refine m_J_run hM 1 rfl ⟨trivial, trivial⟩ ?_
      refine m_J_ldcS (si := 29) hM rfl rfl ?_
      refine m_cV1 hZ hM rfl kw_X9_148 rfl rfl rfl (y_isWord hZ hby hen (b0 := (k_sb tp en p)) (r := k_rl tp en 97 122 (k_sb tp en p)) (si := 29) (by omega) (k_rl_le (by omega) (k_sb_le hpt).2)) rfl (Nat.le_of_ble_eq_true rfl) ?_
      refine m_J_eqH (H' := (Z ++ k_M th u so fz fs gt yr aK aO aT aH aW aS aL ls pl ps tp td (y_wp tp en p) en (k_sb tp en p) fa fv mt nx pL sg bo wa gv bw of o)) rfl ?_
      show m_J _ _ _ _ _ _ _ _ _ _ _ _ (_, _, Value.int (k_z (k_swb tp en p 29)) :: _, _)
      cases h2 : k_swb tp en p 29 with
      | false =>
        refine m_J_run hM 1 rfl ⟨trivial, trivial⟩ ?_
        refine m_J_if (fun _ => ?_) (fun hc => absurd (by decide) hc)
        refine m_J_run hM 1 rfl ⟨trivial, trivial⟩ ?_
        refine m_J_ldcS (si := 30) hM rfl rfl ?_
        refine m_cV1 hZ hM rfl kw_X9_148 rfl rfl rfl (y_isWord hZ hby hen (b0 := (k_sb tp en p)) (r := k_rl tp en 97 122 (k_sb tp en p)) (si := 30) (by omega) (k_rl_le (by omega) (k_sb_le hpt).2)) rfl (Nat.le_of_ble_eq_true rfl) ?_
        refine m_J_eqH (H' := (Z ++ k_M th u so fz fs gt yr aK aO aT aH aW aS aL ls pl ps tp td (y_wp tp en p) en (k_sb tp en p) fa fv mt nx pL sg bo wa gv bw of o)) rfl ?_
        show m_J _ _ _ _ _ _ _ _ _ _ _ _ (_, _, Value.int (k_z (k_swb tp en p 30)) :: _, _)
        cases h3 : k_swb tp en p 30 with
        | false =>
          refine m_J_run hM 1 rfl ⟨trivial, trivial⟩ ?_
          refine m_J_if (fun _ => ?_) (fun hc => absurd (by decide) hc)
          refine m_J_run hM 1 rfl ⟨trivial, trivial⟩ ?_
          refine m_J_ldcS (si := 31) hM rfl rfl ?_
          refine m_cV1 hZ hM rfl kw_X9_148 rfl rfl rfl (y_isWord hZ hby hen (b0 := (k_sb tp en p)) (r := k_rl tp en 97 122 (k_sb tp en p)) (si := 31) (by omega) (k_rl_le (by omega) (k_sb_le hpt).2)) rfl (Nat.le_of_ble_eq_true rfl) ?_
          refine m_J_eqH (H' := (Z ++ k_M th u so fz fs gt yr aK aO aT aH aW aS aL ls pl ps tp td (y_wp tp en p) en (k_sb tp en p) fa fv mt nx pL sg bo wa gv bw of o)) rfl ?_
          show m_J _ _ _ _ _ _ _ _ _ _ _ _ (_, _, Value.int (k_z (k_swb tp en p 31)) :: _, _)
          cases h4 : k_swb tp en p 31 with
          | false =>
            refine m_J_run hM 1 rfl ⟨trivial, trivial⟩ ?_
            refine m_J_if (fun _ => ?_) (fun hc => absurd (by decide) hc)
            refine m_J_run hM 1 rfl ⟨trivial, trivial⟩ ?_
            exact m_iret hM rfl rfl (rfl) (Nat.le_of_ble_eq_true rfl) (Nat.le_of_ble_eq_true rfl) (by rw [y_uq, if_neg (show ¬ k_swb tp en p 27 = true by rw [h0]; decide), if_neg (show ¬ k_swb tp en p 28 = true by rw [h1]; decide), if_neg (show ¬ k_swb tp en p 29 = true by rw [h2]; decide), if_neg (show ¬ k_swb tp en p 30 = true by rw [h3]; decide), if_neg (show ¬ k_swb tp en p 31 = true by rw [h4]; decide)]; rfl) (rfl)
          | true =>
            refine m_J_run hM 1 rfl ⟨trivial, trivial⟩ ?_
            refine m_J_if (fun hc => absurd hc (by decide)) (fun _ => ?_)
            refine m_J_run hM 2 rfl ⟨trivial, trivial, trivial⟩ ?_
            exact m_iret hM rfl rfl (rfl) (Nat.le_of_ble_eq_true rfl) (Nat.le_of_ble_eq_true rfl) (by rw [y_uq, if_neg (show ¬ k_swb tp en p 27 = true by rw [h0]; decide), if_neg (show ¬ k_swb tp en p 28 = true by rw [h1]; decide), if_neg (show ¬ k_swb tp en p 29 = true by rw [h2]; decide), if_neg (show ¬ k_swb tp en p 30 = true by rw [h3]; decide), if_pos h4]; rfl) (rfl)
        | true =>
          refine m_J_run hM 1 rfl ⟨trivial, trivial⟩ ?_
          refine m_J_if (fun hc => absurd hc (by decide)) (fun _ => ?_)
          refine m_J_run hM 2 rfl ⟨trivial, trivial, trivial⟩ ?_
          exact m_iret hM rfl rfl (rfl) (Nat.le_of_ble_eq_true rfl) (Nat.le_of_ble_eq_true rfl) (by rw [y_uq, if_neg (show ¬ k_swb tp en p 27 = true by rw [h0]; decide), if_neg (show ¬ k_swb tp en p 28 = true by rw [h1]; decide), if_neg (show ¬ k_swb tp en p 29 = true by rw [h2]; decide), if_pos h3]; rfl) (rfl)
      | true =>
        refine m_J_run hM 1 rfl ⟨trivial, trivial⟩ ?_
        refine m_J_if (fun hc => absurd hc (by decide)) (fun _ => ?_)
        refine m_J_run hM 2 rfl ⟨trivial, trivial, trivial⟩ ?_
        exact m_iret hM rfl rfl (rfl) (Nat.le_of_ble_eq_true rfl) (Nat.le_of_ble_eq_true rfl) (by rw [y_uq, if_neg (show ¬ k_swb tp en p 27 = true by rw [h0]; decide), if_neg (show ¬ k_swb tp en p 28 = true by rw [h1]; decide), if_pos h2]; rfl) (rfl)
    | true =>
      refine m_J_run hM 1 rfl ⟨trivial, trivial⟩ ?_
      refine m_J_if (fun hc => absurd hc (by decide)) (fun _ => ?_)
      refine m_J_run hM 2 rfl ⟨trivial, trivial, trivial⟩ ?_
      exact m_iret hM rfl rfl (rfl) (Nat.le_of_ble_eq_true rfl) (Nat.le_of_ble_eq_true rfl) (by rw [y_uq, if_neg (show ¬ k_swb tp en p 27 = true by rw [h0]; decide), if_pos h1]; rfl) (rfl)
  | true =>
    refine m_J_run hM 1 rfl ⟨trivial, trivial⟩ ?_
    refine m_J_if (fun hc => absurd hc (by decide)) (fun _ => ?_)
    refine m_J_run hM 2 rfl ⟨trivial, trivial, trivial⟩ ?_
    exact m_iret hM rfl rfl (rfl) (Nat.le_of_ble_eq_true rfl) (Nat.le_of_ble_eq_true rfl) (by rw [y_uq, if_pos h0]; rfl) (rfl)
set_option maxHeartbeats 2000000 in
theorem y_readUse (hZ : Z.length = 70) (hby : ∀ p, p < 400 → k_isb (tp p)) (hen : en ≤ 400) (hpt : pt ≤ en) : m_Dt l (m_EX E N xs) E mM_X9_readUse (d + 6) 0 0 [.ref 70] (Z ++ k_M th u so fz fs gt yr aK aO aT aH aW aS aL ls pl ps tp td pt en bg fa fv mt nx pL sg bo wa gv bw of o) tg (some (.int (k_on (y_uq tp en pt)))) (Z ++ k_M th u so fz fs gt yr aK aO aT aH aW aS aL ls pl ps tp td (y_wp tp en pt) en (k_sb tp en pt) fa fv mt nx pL sg bo wa gv bw of o) tg := by
  have hM := mM_X9_readUse_ok
  refine m_Sp_of (by decide) (Nat.le_of_ble_eq_true rfl) ?_
  refine m_J_run hM 1 rfl ⟨trivial, trivial⟩ ?_
  refine m_cV0 hZ hM rfl kw_X9_145 rfl rfl rfl (y_word hZ hby hen (by omega)) rfl (Nat.le_of_ble_eq_true rfl) ?_
  refine m_J_run hM 1 rfl ⟨trivial, trivial⟩ ?_
  refine m_cV0 hZ hM rfl kw_X9_162 rfl rfl rfl (y_useOf hZ hby hen (p := pt) (by omega)) rfl (Nat.le_of_ble_eq_true rfl) ?_
  exact m_iret hM rfl rfl (rfl) (Nat.le_of_ble_eq_true rfl) (Nat.le_of_ble_eq_true rfl) (rfl) (rfl)
end
