/-! THE MODEL: use, soil, free, gate, feed, end (written by wip/gen_model2.py) -/
theorem k_nq_ok {a : Nat} (ha : a < 60) : k_nq (nI a) = false := by rw [k_nq, k_imN (by omega) (by omega) (by omega)]; simp; omega
def k_mput (u : Nat → Int32) (a b : Nat) (x : Int32) : Nat → (Nat → Int32)
  | 0 => u
  | n + 1 => if k_in a b n then upd (k_mput u a b x n) n x else k_mput u a b x n
def k_mcnt (u : Nat → Int32) (a b : Nat) (x : Int32) : Nat → Int32
  | 0 => nI 0
  | n + 1 => if k_in a b n then k_mcnt u a b x n + (if u n = x then nI 0 else nI 1) else k_mcnt u a b x n
theorem k_mput_ge (u : Nat → Int32) (a b : Nat) (x : Int32) : ∀ n k, n ≤ k → k_mput u a b x n k = u k := by
  intro n
  induction n with
  | zero => intro k _; rfl
  | succ n ih =>
    intro k hk
    rw [k_mput]
    split
    · rw [upd, if_neg (by omega)]; exact ih k (by omega)
    · exact ih k (by omega)
theorem k_dec {n : Nat} (h : 0 < n) : nI n + -nI 1 = nI (n - 1) := by
  obtain ⟨m, rfl⟩ : ∃ m, n = m + 1 := ⟨n - 1, by omega⟩
  rw [k_succ m, Nat.add_sub_cancel, ← Int32.sub_eq_add_neg, Int32.add_sub_cancel]
section
variable {l : Launch} {E : mE} {N : Nat} {xs : Nat → Int32} {d : Nat} {tg : Bool} {Z : mH} {h : mH}
variable {th : Int32} {u : Nat → Int32} {so : Nat → Int32} {fz : Nat → Bool} {fs : Nat} {gt : Nat} {yr : Nat} {aK : Nat → Int32} {aO : Nat → Int32} {aT : Nat → Int32} {aH : Nat → Int32} {aW : Nat → Int32} {aS : Nat → Int32} {aL : Nat → Int32} {ls : Nat} {pl : Nat → Int32} {ps : Nat} {tp : Nat → Int32} {td : Nat} {pt : Nat} {en : Nat} {bg : Nat} {fa : Int32} {fv : Nat → Int32} {mt : Nat → Bool} {nx : Nat → Int32} {pL : Nat → Nat} {sg : Nat → Int32} {bo : Nat → Int32} {wa : Nat → Int32} {gv : Nat → Int32} {bw : Int32} {of : Nat → Int32} {o : mH}
theorem y_bd {s w : Nat} (hs : s < 60) (hw : w < 4) : m_Dt l (m_EX E N xs) E mM_X9_beside d 0 0 [.int (nI s), .int (nI w)] h tg (some (.int (k_on (k_bd s w)))) h tg := by
  have hM := mM_X9_beside_ok
  refine m_Sp_of (by decide) (Nat.le_of_ble_eq_true rfl) ?_
  match w, hw with
  | 0, _ =>
    refine m_J_run hM 1 rfl ⟨trivial, trivial⟩ ?_
    refine m_J_run hM 1 rfl ⟨by decide, trivial⟩ ?_
    refine m_J_run hM 3 rfl ⟨trivial, trivial, trivial, trivial⟩ ?_
    refine m_J_if (fun hc => ?_) (fun hc => ?_)
    · have hc2 : ¬ 10 ≤ s := fun q => nI_nlt q (by omega) hc
      refine m_J_run hM 1 rfl ⟨trivial, trivial⟩ ?_
      exact m_iret hM rfl rfl rfl (Nat.le_of_ble_eq_true rfl) (Nat.le_of_ble_eq_true rfl) (by simp [k_bd, hc2, k_on]) (rfl)
    · have hc2 : 10 ≤ s := Nat.not_lt.mp (fun q => hc (nI_lt q (by omega)))
      refine m_J_run hM 3 rfl ⟨trivial, trivial, trivial, trivial⟩ ?_
      rw [show nI s - nI 10 = nI (s - 10) from pk_sub hc2]
      refine m_J_run hM 1 rfl ⟨trivial, trivial⟩ ?_
      exact m_iret hM rfl rfl rfl (Nat.le_of_ble_eq_true rfl) (Nat.le_of_ble_eq_true rfl) (by simp [k_bd, hc2, k_on]) (rfl)
  | 1, _ =>
    refine m_J_run hM 1 rfl ⟨trivial, trivial⟩ ?_
    refine m_J_run hM 1 rfl ⟨by decide, trivial⟩ ?_
    refine m_J_run hM 2 rfl ⟨trivial, trivial, trivial⟩ ?_
    refine m_J_run hM 1 rfl ⟨(by decide), trivial⟩ ?_
    rw [k_rem10 (a := s) (by omega)]
    refine m_J_run hM 1 rfl ⟨trivial, trivial⟩ ?_
    refine m_J_if (fun hc => ?_) (fun hc => ?_)
    · have hc2 : ¬ 0 < s % 10 := fun q => nI_nle q (by omega) hc
      refine m_J_run hM 1 rfl ⟨trivial, trivial⟩ ?_
      exact m_iret hM rfl rfl rfl (Nat.le_of_ble_eq_true rfl) (Nat.le_of_ble_eq_true rfl) (by simp only [k_bd, if_neg hc2]; rfl) (rfl)
    · have hc2 : 0 < s % 10 := Nat.pos_of_ne_zero (fun q => hc (by rw [q]; decide))
      refine m_J_run hM 3 rfl ⟨trivial, trivial, trivial, trivial⟩ ?_
      rw [show nI s - nI 1 = nI (s - 1) from pk_sub (by omega)]
      refine m_J_run hM 1 rfl ⟨trivial, trivial⟩ ?_
      exact m_iret hM rfl rfl rfl (Nat.le_of_ble_eq_true rfl) (Nat.le_of_ble_eq_true rfl) (by simp only [k_bd, if_pos hc2]; rfl) (rfl)
  | 2, _ =>
    refine m_J_run hM 1 rfl ⟨trivial, trivial⟩ ?_
    refine m_J_run hM 1 rfl ⟨by decide, trivial⟩ ?_
    refine m_J_run hM 2 rfl ⟨trivial, trivial, trivial⟩ ?_
    refine m_J_run hM 1 rfl ⟨(by decide), trivial⟩ ?_
    rw [k_rem10 (a := s) (by omega)]
    refine m_J_run hM 2 rfl ⟨trivial, trivial, trivial⟩ ?_
    refine m_J_if (fun hc => ?_) (fun hc => ?_)
    · have hc2 : ¬ s % 10 < 9 := fun q => nI_ge q (by omega) hc
      refine m_J_run hM 1 rfl ⟨trivial, trivial⟩ ?_
      exact m_iret hM rfl rfl rfl (Nat.le_of_ble_eq_true rfl) (Nat.le_of_ble_eq_true rfl) (by simp only [k_bd, if_neg hc2]; rfl) (rfl)
    · have hc2 : s % 10 < 9 := Nat.not_le.mp (fun q => hc (nI_le q (by omega)))
      refine m_J_run hM 3 rfl ⟨trivial, trivial, trivial, trivial⟩ ?_
      rw [← k_succ s]
      refine m_J_run hM 1 rfl ⟨trivial, trivial⟩ ?_
      exact m_iret hM rfl rfl rfl (Nat.le_of_ble_eq_true rfl) (Nat.le_of_ble_eq_true rfl) (by simp only [k_bd, if_pos hc2]; rfl) (rfl)
  | 3, _ =>
    refine m_J_run hM 1 rfl ⟨trivial, trivial⟩ ?_
    refine m_J_run hM 1 rfl ⟨by decide, trivial⟩ ?_
    refine m_J_run hM 3 rfl ⟨trivial, trivial, trivial, trivial⟩ ?_
    refine m_J_if (fun hc => ?_) (fun hc => ?_)
    · have hc2 : ¬ s < 50 := fun q => nI_ge q (by omega) hc
      refine m_J_run hM 1 rfl ⟨trivial, trivial⟩ ?_
      exact m_iret hM rfl rfl rfl (Nat.le_of_ble_eq_true rfl) (Nat.le_of_ble_eq_true rfl) (by simp only [k_bd, if_neg hc2]; rfl) (rfl)
    · have hc2 : s < 50 := Nat.not_le.mp (fun q => hc (nI_le q (by omega)))
      refine m_J_run hM 3 rfl ⟨trivial, trivial, trivial, trivial⟩ ?_
      rw [show nI s + nI 10 = nI (s + 10) from nI_add s 10]
      refine m_J_run hM 1 rfl ⟨trivial, trivial⟩ ?_
      exact m_iret hM rfl rfl rfl (Nat.le_of_ble_eq_true rfl) (Nat.le_of_ble_eq_true rfl) (by simp only [k_bd, if_pos hc2]; rfl) (rfl)
  | w + 4, hw => exact absurd hw (by omega)
set_option maxHeartbeats 2000000 in
theorem y_use (hZ : Z.length = 70) {a b v : Nat} (ha : a < 60) (hb : b < 60) (hv : v < 5) : m_Dt l (m_EX E N xs) E mM_X9_use (d + 2) 0 0 [.ref 70, .int (nI a), .int (nI b), .int (nI v)] (Z ++ k_M th u so fz fs gt yr aK aO aT aH aW aS aL ls pl ps tp td pt en bg fa fv mt nx pL sg bo wa gv bw of o) tg (some (.int (k_mcnt u a b (nI v) 60))) (Z ++ k_M (nI 0) (k_mput u a b (nI v) 60) so fz fs gt yr aK aO aT aH aW aS aL ls pl ps tp td pt en bg fa fv mt nx pL sg bo wa gv bw of o) tg := by
  have hM := mM_X9_use_ok
  refine m_Sp_of (by decide) (Nat.le_of_ble_eq_true rfl) ?_
  refine m_J_run hM 2 rfl ⟨trivial, trivial, trivial⟩ ?_
  refine m_J_putf hM rfl rfl (kZ hZ 0 rfl) (rfl) ?_
  refine m_J_eqH (H' := (Z ++ k_M (nI 0) u so fz fs gt yr aK aO aT aH aW aS aL ls pl ps tp td pt en bg fa fv mt nx pL sg bo wa gv bw of o)) (kZs hZ 0 rfl) ?_
  refine m_J_run hM 2 rfl ⟨trivial, trivial, trivial⟩ ?_
  refine m_callS (as := [.int (nI a)]) (rest := [.ref 70]) (m_EX_warm E N xs) hM rfl kw_X9_95 rfl (y_nq) rfl (Nat.le_of_ble_eq_true rfl) (Nat.le_of_ble_eq_true rfl) (Nat.le_of_ble_eq_true rfl) (fun ht => ⟨ht, Nat.le_refl _⟩) ?_
  rw [k_nq_ok ha]
  refine m_J_run hM 1 rfl ⟨trivial, trivial⟩ ?_
  refine m_J_if (fun hc => absurd hc (by decide)) (fun _ => ?_)
  refine m_J_run hM 1 rfl ⟨trivial, trivial⟩ ?_
  refine m_callS (as := [.int (nI b)]) (rest := [.ref 70]) (m_EX_warm E N xs) hM rfl kw_X9_95 rfl (y_nq) rfl (Nat.le_of_ble_eq_true rfl) (Nat.le_of_ble_eq_true rfl) (Nat.le_of_ble_eq_true rfl) (fun ht => ⟨ht, Nat.le_refl _⟩) ?_
  rw [k_nq_ok hb]
  refine m_J_run hM 1 rfl ⟨trivial, trivial⟩ ?_
  refine m_J_if (fun _ => ?_) (fun hc => absurd (by decide) hc)
  refine m_J_run hM 2 rfl ⟨trivial, trivial, trivial⟩ ?_
  refine m_callV (as := [.int (k_z false), .int (nI 1)]) (rest := []) (m_EX_warm E N xs) hM rfl kw_X9_99 rfl rfl (kZ hZ 0 rfl) ⟨_, rfl, rfl⟩ (y_tif hZ (b := false) (x := nI 1) (th := nI 0)) rfl (Nat.le_of_ble_eq_true rfl) (Nat.le_of_ble_eq_true rfl) (Nat.le_of_ble_eq_true rfl) (fun ht => ⟨ht, by first | (simp; done) | (simp [k_M]; done)⟩) ?_
  refine m_J_eqH (H' := (Z ++ k_M (nI 0) u so fz fs gt yr aK aO aT aH aW aS aL ls pl ps tp td pt en bg fa fv mt nx pL sg bo wa gv bw of o)) rfl ?_
  refine m_J_run hM 1 rfl ⟨trivial, trivial⟩ ?_
  refine m_J_if (fun hc => absurd hc (by decide)) (fun _ => ?_)
  refine m_J_run hM 4 rfl ⟨trivial, trivial, trivial, trivial, trivial⟩ ?_
  refine m_callS (as := [.int (nI v), .int (nI 0), .int (nI 4)]) (rest := [.ref 70]) (m_EX_warm E N xs) hM rfl kw_X9_82 rfl (y_in) rfl (Nat.le_of_ble_eq_true rfl) (Nat.le_of_ble_eq_true rfl) (Nat.le_of_ble_eq_true rfl) (fun ht => ⟨ht, Nat.le_refl _⟩) ?_
  rw [show k_im (nI v) (nI 0) (nI 4) = true by rw [k_imN (by omega) (by omega) (by omega)]; simp; omega]
  refine m_J_run hM 1 rfl ⟨trivial, trivial⟩ ?_
  refine m_J_if (fun _ => ?_) (fun hc => absurd (by decide) hc)
  refine m_J_run hM 2 rfl ⟨trivial, trivial, trivial⟩ ?_
  refine m_callV (as := [.int (k_z false), .int (nI 2)]) (rest := []) (m_EX_warm E N xs) hM rfl kw_X9_99 rfl rfl (kZ hZ 0 rfl) ⟨_, rfl, rfl⟩ (y_tif hZ (b := false) (x := nI 2) (th := nI 0)) rfl (Nat.le_of_ble_eq_true rfl) (Nat.le_of_ble_eq_true rfl) (Nat.le_of_ble_eq_true rfl) (fun ht => ⟨ht, by first | (simp; done) | (simp [k_M]; done)⟩) ?_
  refine m_J_eqH (H' := (Z ++ k_M (nI 0) u so fz fs gt yr aK aO aT aH aW aS aL ls pl ps tp td pt en bg fa fv mt nx pL sg bo wa gv bw of o)) rfl ?_
  refine m_J_run hM 1 rfl ⟨trivial, trivial⟩ ?_
  refine m_J_if (fun _ => ?_) (fun hc => absurd (by decide) hc)
  refine m_J_run hM 4 rfl ⟨trivial, trivial, trivial, trivial, trivial⟩ ?_
  have loop : ∀ n i : Nat, i + n = 60 → m_J l (m_EX E N xs) E mM_X9_use (d + 2) 0 0 (m_K (some (.int (k_mcnt u a b (nI v) 60))) (Z ++ k_M (nI 0) (k_mput u a b (nI v) 60) so fz fs gt yr aK aO aT aH aW aS aL ls pl ps tp td pt en bg fa fv mt nx pL sg bo wa gv bw of o) tg) m_no tg 0 0 (62, [some (.ref 70), some (.int (nI a)), some (.int (nI b)), some (.int (nI v)), some (.int (k_mcnt u a b (nI v) i)), some (.int (nI i))], [], (Z ++ k_M (nI 0) (k_mput u a b (nI v) i) so fz fs gt yr aK aO aT aH aW aS aL ls pl ps tp td pt en bg fa fv mt nx pL sg bo wa gv bw of o)) := by
    intro n
    induction n with
    | zero =>
      intro i hi
      have e : i = 60 := by omega
      subst e
      refine m_J_run hM 3 rfl ⟨trivial, trivial, trivial, trivial⟩ ?_
      refine m_J_if (fun _ => ?_) (fun hc => absurd (nI_le (Nat.le_refl _) (by omega)) hc)
      refine m_J_run hM 1 rfl ⟨trivial, trivial⟩ ?_
      exact m_iret hM rfl rfl rfl (Nat.le_of_ble_eq_true rfl) (Nat.le_of_ble_eq_true rfl) (rfl) (rfl)
    | succ n ih =>
      intro i hi
      refine m_J_run hM 3 rfl ⟨trivial, trivial, trivial, trivial⟩ ?_
      refine m_J_if (fun hc => absurd hc (nI_ge (by omega) (by omega))) (fun _ => ?_)
      refine m_J_run hM 3 rfl ⟨trivial, trivial, trivial, trivial⟩ ?_
      refine m_callS (as := [.int (nI i), .int (nI a), .int (nI b)]) (rest := []) (m_EX_warm E N xs) hM rfl kw_X9_103 rfl (y_ii (by omega) ha hb) rfl (Nat.le_of_ble_eq_true rfl) (Nat.le_of_ble_eq_true rfl) (Nat.le_of_ble_eq_true rfl) (fun ht => ⟨ht, Nat.le_refl _⟩) ?_
      cases hx : k_in a b i with
      | false =>
        refine m_J_run hM 1 rfl ⟨trivial, trivial⟩ ?_
        refine m_J_if (fun hc => absurd hc (fun q => q rfl)) (fun _ => ?_)
        refine m_J_run hM 3 rfl ⟨trivial, trivial, trivial, trivial⟩ ?_
        have e1 : k_mcnt u a b (nI v) (i + 1) = k_mcnt u a b (nI v) i := by rw [k_mcnt, hx]; rfl
        have e2 : k_mput u a b (nI v) (i + 1) = k_mput u a b (nI v) i := by rw [k_mput, hx]; rfl
        have h9 := ih (i + 1) (by omega)
        rw [e1, e2, k_succ i] at h9
        exact h9
      | true =>
        refine m_J_run hM 1 rfl ⟨trivial, trivial⟩ ?_
        refine m_J_if (fun _ => ?_) (fun hc => absurd (by decide) hc)
        refine m_J_run hM 2 rfl ⟨trivial, trivial, trivial⟩ ?_
        refine m_J_getf hM rfl rfl (kZ hZ 0 rfl) (rfl) ?_
        refine m_J_run hM 1 rfl ⟨trivial, trivial⟩ ?_
        refine m_ialdN hM rfl (kZ hZ 1 rfl) (by omega) (by omega) ?_
        rw [k_mput_ge _ _ _ _ _ _ (Nat.le_refl i)]
        refine m_J_run hM 1 rfl ⟨trivial, trivial⟩ ?_
        have e2 : k_mput u a b (nI v) (i + 1) = upd (k_mput u a b (nI v) i) i (nI v) := by rw [k_mput, if_pos hx]
        have h9 := ih (i + 1) (by omega)
        rw [e2, k_succ i] at h9
        refine m_J_run hM 1 rfl ⟨trivial, trivial⟩ ?_
        refine m_J_if (fun hc => ?_) (fun hc => ?_)
        · have e1 : k_mcnt u a b (nI v) (i + 1) = k_mcnt u a b (nI v) i + nI 0 := by rw [k_mcnt, if_pos hx, if_pos hc]
          rw [e1] at h9
          refine m_J_run hM 4 rfl ⟨trivial, trivial, trivial, trivial, trivial⟩ ?_
          refine m_J_getf hM rfl rfl (kZ hZ 0 rfl) (rfl) ?_
          refine m_J_run hM 2 rfl ⟨trivial, trivial, trivial⟩ ?_
          refine m_iastN hM rfl (kZ hZ 1 rfl) (by omega) (by omega) ?_
          refine m_J_eqH (H' := (Z ++ k_M (nI 0) (upd (k_mput u a b (nI v) i) i (nI v)) so fz fs gt yr aK aO aT aH aW aS aL ls pl ps tp td pt en bg fa fv mt nx pL sg bo wa gv bw of o)) (kZs hZ 1 rfl) ?_
          refine m_J_run hM 2 rfl ⟨trivial, trivial, trivial⟩ ?_
          exact h9
        · have e1 : k_mcnt u a b (nI v) (i + 1) = k_mcnt u a b (nI v) i + nI 1 := by rw [k_mcnt, if_pos hx, if_neg hc]
          rw [e1] at h9
          refine m_J_run hM 5 rfl ⟨trivial, trivial, trivial, trivial, trivial, trivial⟩ ?_
          refine m_J_getf hM rfl rfl (kZ hZ 0 rfl) (rfl) ?_
          refine m_J_run hM 2 rfl ⟨trivial, trivial, trivial⟩ ?_
          refine m_iastN hM rfl (kZ hZ 1 rfl) (by omega) (by omega) ?_
          refine m_J_eqH (H' := (Z ++ k_M (nI 0) (upd (k_mput u a b (nI v) i) i (nI v)) so fz fs gt yr aK aO aT aH aW aS aL ls pl ps tp td pt en bg fa fv mt nx pL sg bo wa gv bw of o)) (kZs hZ 1 rfl) ?_
          refine m_J_run hM 2 rfl ⟨trivial, trivial, trivial⟩ ?_
          exact h9
  exact loop 60 0 rfl
set_option maxHeartbeats 2000000 in
theorem y_use_1 (hZ : Z.length = 70) {x y w : Int32} (hx : k_nq x = true) : m_Dt l (m_EX E N xs) E mM_X9_use (d + 2) 0 0 [.ref 70, .int x, .int y, .int w] (Z ++ k_M th u so fz fs gt yr aK aO aT aH aW aS aL ls pl ps tp td pt en bg fa fv mt nx pL sg bo wa gv bw of o) tg (some (.int (nI 0))) (Z ++ k_M (nI 1) u so fz fs gt yr aK aO aT aH aW aS aL ls pl ps tp td pt en bg fa fv mt nx pL sg bo wa gv bw of o) tg := by
  have hM := mM_X9_use_ok
  refine m_Sp_of (by decide) (Nat.le_of_ble_eq_true rfl) ?_
  refine m_J_run hM 2 rfl ⟨trivial, trivial, trivial⟩ ?_
  refine m_J_putf hM rfl rfl (kZ hZ 0 rfl) (rfl) ?_
  refine m_J_eqH (H' := (Z ++ k_M (nI 0) u so fz fs gt yr aK aO aT aH aW aS aL ls pl ps tp td pt en bg fa fv mt nx pL sg bo wa gv bw of o)) (kZs hZ 0 rfl) ?_
  refine m_J_run hM 2 rfl ⟨trivial, trivial, trivial⟩ ?_
  refine m_callS (as := [.int x]) (rest := [.ref 70]) (m_EX_warm E N xs) hM rfl kw_X9_95 rfl (y_nq) rfl (Nat.le_of_ble_eq_true rfl) (Nat.le_of_ble_eq_true rfl) (Nat.le_of_ble_eq_true rfl) (fun ht => ⟨ht, Nat.le_refl _⟩) ?_
  rw [hx]
  refine m_J_run hM 1 rfl ⟨trivial, trivial⟩ ?_
  refine m_J_if (fun _ => ?_) (fun hc => absurd (by decide) hc)
  refine m_J_run hM 3 rfl ⟨trivial, trivial, trivial, trivial⟩ ?_
  refine m_callV (as := [.int (k_z true), .int (nI 1)]) (rest := []) (m_EX_warm E N xs) hM rfl kw_X9_99 rfl rfl (kZ hZ 0 rfl) ⟨_, rfl, rfl⟩ (y_tif hZ (b := true) (x := nI 1) (th := nI 0)) rfl (Nat.le_of_ble_eq_true rfl) (Nat.le_of_ble_eq_true rfl) (Nat.le_of_ble_eq_true rfl) (fun ht => ⟨ht, by first | (simp; done) | (simp [k_M]; done)⟩) ?_
  refine m_J_eqH (H' := (Z ++ k_M (nI 1) u so fz fs gt yr aK aO aT aH aW aS aL ls pl ps tp td pt en bg fa fv mt nx pL sg bo wa gv bw of o)) rfl ?_
  refine m_J_run hM 1 rfl ⟨trivial, trivial⟩ ?_
  refine m_J_if (fun _ => ?_) (fun hc => absurd (by decide) hc)
  refine m_J_run hM 1 rfl ⟨trivial, trivial⟩ ?_
  exact m_iret hM rfl rfl rfl (Nat.le_of_ble_eq_true rfl) (Nat.le_of_ble_eq_true rfl) (rfl) (rfl)
set_option maxHeartbeats 2000000 in
theorem y_use_2 (hZ : Z.length = 70) {x y w : Int32} (hx : k_nq x = false) (hy : k_nq y = true) : m_Dt l (m_EX E N xs) E mM_X9_use (d + 2) 0 0 [.ref 70, .int x, .int y, .int w] (Z ++ k_M th u so fz fs gt yr aK aO aT aH aW aS aL ls pl ps tp td pt en bg fa fv mt nx pL sg bo wa gv bw of o) tg (some (.int (nI 0))) (Z ++ k_M (nI 1) u so fz fs gt yr aK aO aT aH aW aS aL ls pl ps tp td pt en bg fa fv mt nx pL sg bo wa gv bw of o) tg := by
  have hM := mM_X9_use_ok
  refine m_Sp_of (by decide) (Nat.le_of_ble_eq_true rfl) ?_
  refine m_J_run hM 2 rfl ⟨trivial, trivial, trivial⟩ ?_
  refine m_J_putf hM rfl rfl (kZ hZ 0 rfl) (rfl) ?_
  refine m_J_eqH (H' := (Z ++ k_M (nI 0) u so fz fs gt yr aK aO aT aH aW aS aL ls pl ps tp td pt en bg fa fv mt nx pL sg bo wa gv bw of o)) (kZs hZ 0 rfl) ?_
  refine m_J_run hM 2 rfl ⟨trivial, trivial, trivial⟩ ?_
  refine m_callS (as := [.int x]) (rest := [.ref 70]) (m_EX_warm E N xs) hM rfl kw_X9_95 rfl (y_nq) rfl (Nat.le_of_ble_eq_true rfl) (Nat.le_of_ble_eq_true rfl) (Nat.le_of_ble_eq_true rfl) (fun ht => ⟨ht, Nat.le_refl _⟩) ?_
  rw [hx]
  refine m_J_run hM 1 rfl ⟨trivial, trivial⟩ ?_
  refine m_J_if (fun hc => absurd hc (by decide)) (fun _ => ?_)
  refine m_J_run hM 1 rfl ⟨trivial, trivial⟩ ?_
  refine m_callS (as := [.int y]) (rest := [.ref 70]) (m_EX_warm E N xs) hM rfl kw_X9_95 rfl (y_nq) rfl (Nat.le_of_ble_eq_true rfl) (Nat.le_of_ble_eq_true rfl) (Nat.le_of_ble_eq_true rfl) (fun ht => ⟨ht, Nat.le_refl _⟩) ?_
  rw [hy]
  refine m_J_run hM 1 rfl ⟨trivial, trivial⟩ ?_
  refine m_J_if (fun hc => absurd hc (by decide)) (fun _ => ?_)
  refine m_J_run hM 3 rfl ⟨trivial, trivial, trivial, trivial⟩ ?_
  refine m_callV (as := [.int (k_z true), .int (nI 1)]) (rest := []) (m_EX_warm E N xs) hM rfl kw_X9_99 rfl rfl (kZ hZ 0 rfl) ⟨_, rfl, rfl⟩ (y_tif hZ (b := true) (x := nI 1) (th := nI 0)) rfl (Nat.le_of_ble_eq_true rfl) (Nat.le_of_ble_eq_true rfl) (Nat.le_of_ble_eq_true rfl) (fun ht => ⟨ht, by first | (simp; done) | (simp [k_M]; done)⟩) ?_
  refine m_J_eqH (H' := (Z ++ k_M (nI 1) u so fz fs gt yr aK aO aT aH aW aS aL ls pl ps tp td pt en bg fa fv mt nx pL sg bo wa gv bw of o)) rfl ?_
  refine m_J_run hM 1 rfl ⟨trivial, trivial⟩ ?_
  refine m_J_if (fun _ => ?_) (fun hc => absurd (by decide) hc)
  refine m_J_run hM 1 rfl ⟨trivial, trivial⟩ ?_
  exact m_iret hM rfl rfl rfl (Nat.le_of_ble_eq_true rfl) (Nat.le_of_ble_eq_true rfl) (rfl) (rfl)
set_option maxHeartbeats 2000000 in
theorem y_use_3 (hZ : Z.length = 70) {x y w : Int32} (hx : k_nq x = false) (hy : k_nq y = false) (hw : k_im w (nI 0) (nI 4) = false) : m_Dt l (m_EX E N xs) E mM_X9_use (d + 2) 0 0 [.ref 70, .int x, .int y, .int w] (Z ++ k_M th u so fz fs gt yr aK aO aT aH aW aS aL ls pl ps tp td pt en bg fa fv mt nx pL sg bo wa gv bw of o) tg (some (.int (nI 0))) (Z ++ k_M (nI 2) u so fz fs gt yr aK aO aT aH aW aS aL ls pl ps tp td pt en bg fa fv mt nx pL sg bo wa gv bw of o) tg := by
  have hM := mM_X9_use_ok
  refine m_Sp_of (by decide) (Nat.le_of_ble_eq_true rfl) ?_
  refine m_J_run hM 2 rfl ⟨trivial, trivial, trivial⟩ ?_
  refine m_J_putf hM rfl rfl (kZ hZ 0 rfl) (rfl) ?_
  refine m_J_eqH (H' := (Z ++ k_M (nI 0) u so fz fs gt yr aK aO aT aH aW aS aL ls pl ps tp td pt en bg fa fv mt nx pL sg bo wa gv bw of o)) (kZs hZ 0 rfl) ?_
  refine m_J_run hM 2 rfl ⟨trivial, trivial, trivial⟩ ?_
  refine m_callS (as := [.int x]) (rest := [.ref 70]) (m_EX_warm E N xs) hM rfl kw_X9_95 rfl (y_nq) rfl (Nat.le_of_ble_eq_true rfl) (Nat.le_of_ble_eq_true rfl) (Nat.le_of_ble_eq_true rfl) (fun ht => ⟨ht, Nat.le_refl _⟩) ?_
  rw [hx]
  refine m_J_run hM 1 rfl ⟨trivial, trivial⟩ ?_
  refine m_J_if (fun hc => absurd hc (by decide)) (fun _ => ?_)
  refine m_J_run hM 1 rfl ⟨trivial, trivial⟩ ?_
  refine m_callS (as := [.int y]) (rest := [.ref 70]) (m_EX_warm E N xs) hM rfl kw_X9_95 rfl (y_nq) rfl (Nat.le_of_ble_eq_true rfl) (Nat.le_of_ble_eq_true rfl) (Nat.le_of_ble_eq_true rfl) (fun ht => ⟨ht, Nat.le_refl _⟩) ?_
  rw [hy]
  refine m_J_run hM 1 rfl ⟨trivial, trivial⟩ ?_
  refine m_J_if (fun _ => ?_) (fun hc => absurd (by decide) hc)
  refine m_J_run hM 2 rfl ⟨trivial, trivial, trivial⟩ ?_
  refine m_callV (as := [.int (k_z false), .int (nI 1)]) (rest := []) (m_EX_warm E N xs) hM rfl kw_X9_99 rfl rfl (kZ hZ 0 rfl) ⟨_, rfl, rfl⟩ (y_tif hZ (b := false) (x := nI 1) (th := nI 0)) rfl (Nat.le_of_ble_eq_true rfl) (Nat.le_of_ble_eq_true rfl) (Nat.le_of_ble_eq_true rfl) (fun ht => ⟨ht, by first | (simp; done) | (simp [k_M]; done)⟩) ?_
  refine m_J_eqH (H' := (Z ++ k_M (nI 0) u so fz fs gt yr aK aO aT aH aW aS aL ls pl ps tp td pt en bg fa fv mt nx pL sg bo wa gv bw of o)) rfl ?_
  refine m_J_run hM 1 rfl ⟨trivial, trivial⟩ ?_
  refine m_J_if (fun hc => absurd hc (by decide)) (fun _ => ?_)
  refine m_J_run hM 4 rfl ⟨trivial, trivial, trivial, trivial, trivial⟩ ?_
  refine m_callS (as := [.int w, .int (nI 0), .int (nI 4)]) (rest := [.ref 70]) (m_EX_warm E N xs) hM rfl kw_X9_82 rfl (y_in) rfl (Nat.le_of_ble_eq_true rfl) (Nat.le_of_ble_eq_true rfl) (Nat.le_of_ble_eq_true rfl) (fun ht => ⟨ht, Nat.le_refl _⟩) ?_
  rw [hw]
  refine m_J_run hM 1 rfl ⟨trivial, trivial⟩ ?_
  refine m_J_if (fun hc => absurd hc (by decide)) (fun _ => ?_)
  refine m_J_run hM 3 rfl ⟨trivial, trivial, trivial, trivial⟩ ?_
  refine m_callV (as := [.int (k_z true), .int (nI 2)]) (rest := []) (m_EX_warm E N xs) hM rfl kw_X9_99 rfl rfl (kZ hZ 0 rfl) ⟨_, rfl, rfl⟩ (y_tif hZ (b := true) (x := nI 2) (th := nI 0)) rfl (Nat.le_of_ble_eq_true rfl) (Nat.le_of_ble_eq_true rfl) (Nat.le_of_ble_eq_true rfl) (fun ht => ⟨ht, by first | (simp; done) | (simp [k_M]; done)⟩) ?_
  refine m_J_eqH (H' := (Z ++ k_M (nI 2) u so fz fs gt yr aK aO aT aH aW aS aL ls pl ps tp td pt en bg fa fv mt nx pL sg bo wa gv bw of o)) rfl ?_
  refine m_J_run hM 1 rfl ⟨trivial, trivial⟩ ?_
  refine m_J_if (fun hc => absurd hc (by decide)) (fun _ => ?_)
  refine m_J_run hM 1 rfl ⟨trivial, trivial⟩ ?_
  exact m_iret hM rfl rfl rfl (Nat.le_of_ble_eq_true rfl) (Nat.le_of_ble_eq_true rfl) (rfl) (rfl)
set_option maxHeartbeats 2000000 in
theorem y_soil (hZ : Z.length = 70) {a b : Nat} {w : Int32} (ha : a < 60) (hb : b < 60) (hw : k_im w (nI 0) (nI 9) = true) : m_Dt l (m_EX E N xs) E mM_X9_soil (d + 2) 0 0 [.ref 70, .int (nI a), .int (nI b), .int w] (Z ++ k_M th u so fz fs gt yr aK aO aT aH aW aS aL ls pl ps tp td pt en bg fa fv mt nx pL sg bo wa gv bw of o) tg (none) (Z ++ k_M (nI 0) u (k_mput so a b w 60) fz fs gt yr aK aO aT aH aW aS aL ls pl ps tp td pt en bg fa fv mt nx pL sg bo wa gv bw of o) tg := by
  have hM := mM_X9_soil_ok
  refine m_Sp_of (by decide) (Nat.le_of_ble_eq_true rfl) ?_
  refine m_J_run hM 2 rfl ⟨trivial, trivial, trivial⟩ ?_
  refine m_J_putf hM rfl rfl (kZ hZ 0 rfl) (rfl) ?_
  refine m_J_eqH (H' := (Z ++ k_M (nI 0) u so fz fs gt yr aK aO aT aH aW aS aL ls pl ps tp td pt en bg fa fv mt nx pL sg bo wa gv bw of o)) (kZs hZ 0 rfl) ?_
  refine m_J_run hM 2 rfl ⟨trivial, trivial, trivial⟩ ?_
  refine m_callS (as := [.int (nI a)]) (rest := [.ref 70]) (m_EX_warm E N xs) hM rfl kw_X9_95 rfl (y_nq) rfl (Nat.le_of_ble_eq_true rfl) (Nat.le_of_ble_eq_true rfl) (Nat.le_of_ble_eq_true rfl) (fun ht => ⟨ht, Nat.le_refl _⟩) ?_
  rw [k_nq_ok ha]
  refine m_J_run hM 1 rfl ⟨trivial, trivial⟩ ?_
  refine m_J_if (fun hc => absurd hc (by decide)) (fun _ => ?_)
  refine m_J_run hM 1 rfl ⟨trivial, trivial⟩ ?_
  refine m_callS (as := [.int (nI b)]) (rest := [.ref 70]) (m_EX_warm E N xs) hM rfl kw_X9_95 rfl (y_nq) rfl (Nat.le_of_ble_eq_true rfl) (Nat.le_of_ble_eq_true rfl) (Nat.le_of_ble_eq_true rfl) (fun ht => ⟨ht, Nat.le_refl _⟩) ?_
  rw [k_nq_ok hb]
  refine m_J_run hM 1 rfl ⟨trivial, trivial⟩ ?_
  refine m_J_if (fun _ => ?_) (fun hc => absurd (by decide) hc)
  refine m_J_run hM 2 rfl ⟨trivial, trivial, trivial⟩ ?_
  refine m_callV (as := [.int (k_z false), .int (nI 1)]) (rest := []) (m_EX_warm E N xs) hM rfl kw_X9_99 rfl rfl (kZ hZ 0 rfl) ⟨_, rfl, rfl⟩ (y_tif hZ (b := false) (x := nI 1) (th := nI 0)) rfl (Nat.le_of_ble_eq_true rfl) (Nat.le_of_ble_eq_true rfl) (Nat.le_of_ble_eq_true rfl) (fun ht => ⟨ht, by first | (simp; done) | (simp [k_M]; done)⟩) ?_
  refine m_J_eqH (H' := (Z ++ k_M (nI 0) u so fz fs gt yr aK aO aT aH aW aS aL ls pl ps tp td pt en bg fa fv mt nx pL sg bo wa gv bw of o)) rfl ?_
  refine m_J_run hM 1 rfl ⟨trivial, trivial⟩ ?_
  refine m_J_if (fun hc => absurd hc (by decide)) (fun _ => ?_)
  refine m_J_run hM 4 rfl ⟨trivial, trivial, trivial, trivial, trivial⟩ ?_
  refine m_callS (as := [.int w, .int (nI 0), .int (nI 9)]) (rest := [.ref 70]) (m_EX_warm E N xs) hM rfl kw_X9_82 rfl (y_in) rfl (Nat.le_of_ble_eq_true rfl) (Nat.le_of_ble_eq_true rfl) (Nat.le_of_ble_eq_true rfl) (fun ht => ⟨ht, Nat.le_refl _⟩) ?_
  rw [hw]
  refine m_J_run hM 1 rfl ⟨trivial, trivial⟩ ?_
  refine m_J_if (fun _ => ?_) (fun hc => absurd (by decide) hc)
  refine m_J_run hM 2 rfl ⟨trivial, trivial, trivial⟩ ?_
  refine m_callV (as := [.int (k_z false), .int (nI 2)]) (rest := []) (m_EX_warm E N xs) hM rfl kw_X9_99 rfl rfl (kZ hZ 0 rfl) ⟨_, rfl, rfl⟩ (y_tif hZ (b := false) (x := nI 2) (th := nI 0)) rfl (Nat.le_of_ble_eq_true rfl) (Nat.le_of_ble_eq_true rfl) (Nat.le_of_ble_eq_true rfl) (fun ht => ⟨ht, by first | (simp; done) | (simp [k_M]; done)⟩) ?_
  refine m_J_eqH (H' := (Z ++ k_M (nI 0) u so fz fs gt yr aK aO aT aH aW aS aL ls pl ps tp td pt en bg fa fv mt nx pL sg bo wa gv bw of o)) rfl ?_
  refine m_J_run hM 1 rfl ⟨trivial, trivial⟩ ?_
  refine m_J_if (fun _ => ?_) (fun hc => absurd (by decide) hc)
  refine m_J_run hM 2 rfl ⟨trivial, trivial, trivial⟩ ?_
  have loop : ∀ n i : Nat, i + n = 60 → m_J l (m_EX E N xs) E mM_X9_soil (d + 2) 0 0 (m_K none (Z ++ k_M (nI 0) u (k_mput so a b w 60) fz fs gt yr aK aO aT aH aW aS aL ls pl ps tp td pt en bg fa fv mt nx pL sg bo wa gv bw of o) tg) m_no tg 0 0 (59, [some (.ref 70), some (.int (nI a)), some (.int (nI b)), some (.int w), some (.int (nI i))], [], (Z ++ k_M (nI 0) u (k_mput so a b w i) fz fs gt yr aK aO aT aH aW aS aL ls pl ps tp td pt en bg fa fv mt nx pL sg bo wa gv bw of o)) := by
    intro n
    induction n with
    | zero =>
      intro i hi
      have e : i = 60 := by omega
      subst e
      refine m_J_run hM 3 rfl ⟨trivial, trivial, trivial, trivial⟩ ?_
      refine m_J_if (fun _ => ?_) (fun hc => absurd (nI_le (Nat.le_refl _) (by omega)) hc)
      exact m_vret hM rfl rfl (Nat.le_of_ble_eq_true rfl) (Nat.le_of_ble_eq_true rfl) (rfl)
    | succ n ih =>
      intro i hi
      refine m_J_run hM 3 rfl ⟨trivial, trivial, trivial, trivial⟩ ?_
      refine m_J_if (fun hc => absurd hc (nI_ge (by omega) (by omega))) (fun _ => ?_)
      refine m_J_run hM 3 rfl ⟨trivial, trivial, trivial, trivial⟩ ?_
      refine m_callS (as := [.int (nI i), .int (nI a), .int (nI b)]) (rest := []) (m_EX_warm E N xs) hM rfl kw_X9_103 rfl (y_ii (by omega) ha hb) rfl (Nat.le_of_ble_eq_true rfl) (Nat.le_of_ble_eq_true rfl) (Nat.le_of_ble_eq_true rfl) (fun ht => ⟨ht, Nat.le_refl _⟩) ?_
      have h9 := ih (i + 1) (by omega)
      rw [k_succ i] at h9
      cases hx : k_in a b i with
      | false =>
        rw [show k_mput so a b w (i + 1) = k_mput so a b w i by rw [k_mput, hx]; rfl] at h9
        refine m_J_run hM 1 rfl ⟨trivial, trivial⟩ ?_
        refine m_J_if (fun _ => ?_) (fun hc => absurd (rfl) hc)
        refine m_J_run hM 2 rfl ⟨trivial, trivial, trivial⟩ ?_
        exact h9
      | true =>
        rw [show k_mput so a b w (i + 1) = upd (k_mput so a b w i) i w by rw [k_mput, if_pos hx]] at h9
        refine m_J_run hM 1 rfl ⟨trivial, trivial⟩ ?_
        refine m_J_if (fun hc => absurd hc (by decide)) (fun _ => ?_)
        refine m_J_run hM 1 rfl ⟨trivial, trivial⟩ ?_
        refine m_J_getf hM rfl rfl (kZ hZ 0 rfl) (rfl) ?_
        refine m_J_run hM 2 rfl ⟨trivial, trivial, trivial⟩ ?_
        refine m_iastN hM rfl (kZ hZ 2 rfl) (by omega) (by omega) ?_
        refine m_J_eqH (H' := (Z ++ k_M (nI 0) u (upd (k_mput so a b w i) i w) fz fs gt yr aK aO aT aH aW aS aL ls pl ps tp td pt en bg fa fv mt nx pL sg bo wa gv bw of o)) (kZs hZ 2 rfl) ?_
        refine m_J_run hM 2 rfl ⟨trivial, trivial, trivial⟩ ?_
        exact h9
  exact loop 60 0 rfl
set_option maxHeartbeats 2000000 in
theorem y_soil_1 (hZ : Z.length = 70) {x y w : Int32} (hx : k_nq x = true) : m_Dt l (m_EX E N xs) E mM_X9_soil (d + 2) 0 0 [.ref 70, .int x, .int y, .int w] (Z ++ k_M th u so fz fs gt yr aK aO aT aH aW aS aL ls pl ps tp td pt en bg fa fv mt nx pL sg bo wa gv bw of o) tg (none) (Z ++ k_M (nI 1) u so fz fs gt yr aK aO aT aH aW aS aL ls pl ps tp td pt en bg fa fv mt nx pL sg bo wa gv bw of o) tg := by
  have hM := mM_X9_soil_ok
  refine m_Sp_of (by decide) (Nat.le_of_ble_eq_true rfl) ?_
  refine m_J_run hM 2 rfl ⟨trivial, trivial, trivial⟩ ?_
  refine m_J_putf hM rfl rfl (kZ hZ 0 rfl) (rfl) ?_
  refine m_J_eqH (H' := (Z ++ k_M (nI 0) u so fz fs gt yr aK aO aT aH aW aS aL ls pl ps tp td pt en bg fa fv mt nx pL sg bo wa gv bw of o)) (kZs hZ 0 rfl) ?_
  refine m_J_run hM 2 rfl ⟨trivial, trivial, trivial⟩ ?_
  refine m_callS (as := [.int x]) (rest := [.ref 70]) (m_EX_warm E N xs) hM rfl kw_X9_95 rfl (y_nq) rfl (Nat.le_of_ble_eq_true rfl) (Nat.le_of_ble_eq_true rfl) (Nat.le_of_ble_eq_true rfl) (fun ht => ⟨ht, Nat.le_refl _⟩) ?_
  rw [hx]
  refine m_J_run hM 1 rfl ⟨trivial, trivial⟩ ?_
  refine m_J_if (fun _ => ?_) (fun hc => absurd (by decide) hc)
  refine m_J_run hM 3 rfl ⟨trivial, trivial, trivial, trivial⟩ ?_
  refine m_callV (as := [.int (k_z true), .int (nI 1)]) (rest := []) (m_EX_warm E N xs) hM rfl kw_X9_99 rfl rfl (kZ hZ 0 rfl) ⟨_, rfl, rfl⟩ (y_tif hZ (b := true) (x := nI 1) (th := nI 0)) rfl (Nat.le_of_ble_eq_true rfl) (Nat.le_of_ble_eq_true rfl) (Nat.le_of_ble_eq_true rfl) (fun ht => ⟨ht, by first | (simp; done) | (simp [k_M]; done)⟩) ?_
  refine m_J_eqH (H' := (Z ++ k_M (nI 1) u so fz fs gt yr aK aO aT aH aW aS aL ls pl ps tp td pt en bg fa fv mt nx pL sg bo wa gv bw of o)) rfl ?_
  refine m_J_run hM 1 rfl ⟨trivial, trivial⟩ ?_
  refine m_J_if (fun _ => ?_) (fun hc => absurd (by decide) hc)
  exact m_vret hM rfl rfl (Nat.le_of_ble_eq_true rfl) (Nat.le_of_ble_eq_true rfl) (rfl)
set_option maxHeartbeats 2000000 in
theorem y_soil_2 (hZ : Z.length = 70) {x y w : Int32} (hx : k_nq x = false) (hy : k_nq y = true) : m_Dt l (m_EX E N xs) E mM_X9_soil (d + 2) 0 0 [.ref 70, .int x, .int y, .int w] (Z ++ k_M th u so fz fs gt yr aK aO aT aH aW aS aL ls pl ps tp td pt en bg fa fv mt nx pL sg bo wa gv bw of o) tg (none) (Z ++ k_M (nI 1) u so fz fs gt yr aK aO aT aH aW aS aL ls pl ps tp td pt en bg fa fv mt nx pL sg bo wa gv bw of o) tg := by
  have hM := mM_X9_soil_ok
  refine m_Sp_of (by decide) (Nat.le_of_ble_eq_true rfl) ?_
  refine m_J_run hM 2 rfl ⟨trivial, trivial, trivial⟩ ?_
  refine m_J_putf hM rfl rfl (kZ hZ 0 rfl) (rfl) ?_
  refine m_J_eqH (H' := (Z ++ k_M (nI 0) u so fz fs gt yr aK aO aT aH aW aS aL ls pl ps tp td pt en bg fa fv mt nx pL sg bo wa gv bw of o)) (kZs hZ 0 rfl) ?_
  refine m_J_run hM 2 rfl ⟨trivial, trivial, trivial⟩ ?_
  refine m_callS (as := [.int x]) (rest := [.ref 70]) (m_EX_warm E N xs) hM rfl kw_X9_95 rfl (y_nq) rfl (Nat.le_of_ble_eq_true rfl) (Nat.le_of_ble_eq_true rfl) (Nat.le_of_ble_eq_true rfl) (fun ht => ⟨ht, Nat.le_refl _⟩) ?_
  rw [hx]
  refine m_J_run hM 1 rfl ⟨trivial, trivial⟩ ?_
  refine m_J_if (fun hc => absurd hc (by decide)) (fun _ => ?_)
  refine m_J_run hM 1 rfl ⟨trivial, trivial⟩ ?_
  refine m_callS (as := [.int y]) (rest := [.ref 70]) (m_EX_warm E N xs) hM rfl kw_X9_95 rfl (y_nq) rfl (Nat.le_of_ble_eq_true rfl) (Nat.le_of_ble_eq_true rfl) (Nat.le_of_ble_eq_true rfl) (fun ht => ⟨ht, Nat.le_refl _⟩) ?_
  rw [hy]
  refine m_J_run hM 1 rfl ⟨trivial, trivial⟩ ?_
  refine m_J_if (fun hc => absurd hc (by decide)) (fun _ => ?_)
  refine m_J_run hM 3 rfl ⟨trivial, trivial, trivial, trivial⟩ ?_
  refine m_callV (as := [.int (k_z true), .int (nI 1)]) (rest := []) (m_EX_warm E N xs) hM rfl kw_X9_99 rfl rfl (kZ hZ 0 rfl) ⟨_, rfl, rfl⟩ (y_tif hZ (b := true) (x := nI 1) (th := nI 0)) rfl (Nat.le_of_ble_eq_true rfl) (Nat.le_of_ble_eq_true rfl) (Nat.le_of_ble_eq_true rfl) (fun ht => ⟨ht, by first | (simp; done) | (simp [k_M]; done)⟩) ?_
  refine m_J_eqH (H' := (Z ++ k_M (nI 1) u so fz fs gt yr aK aO aT aH aW aS aL ls pl ps tp td pt en bg fa fv mt nx pL sg bo wa gv bw of o)) rfl ?_
  refine m_J_run hM 1 rfl ⟨trivial, trivial⟩ ?_
  refine m_J_if (fun _ => ?_) (fun hc => absurd (by decide) hc)
  exact m_vret hM rfl rfl (Nat.le_of_ble_eq_true rfl) (Nat.le_of_ble_eq_true rfl) (rfl)
set_option maxHeartbeats 2000000 in
theorem y_soil_3 (hZ : Z.length = 70) {x y w : Int32} (hx : k_nq x = false) (hy : k_nq y = false) (hw : k_im w (nI 0) (nI 9) = false) : m_Dt l (m_EX E N xs) E mM_X9_soil (d + 2) 0 0 [.ref 70, .int x, .int y, .int w] (Z ++ k_M th u so fz fs gt yr aK aO aT aH aW aS aL ls pl ps tp td pt en bg fa fv mt nx pL sg bo wa gv bw of o) tg (none) (Z ++ k_M (nI 2) u so fz fs gt yr aK aO aT aH aW aS aL ls pl ps tp td pt en bg fa fv mt nx pL sg bo wa gv bw of o) tg := by
  have hM := mM_X9_soil_ok
  refine m_Sp_of (by decide) (Nat.le_of_ble_eq_true rfl) ?_
  refine m_J_run hM 2 rfl ⟨trivial, trivial, trivial⟩ ?_
  refine m_J_putf hM rfl rfl (kZ hZ 0 rfl) (rfl) ?_
  refine m_J_eqH (H' := (Z ++ k_M (nI 0) u so fz fs gt yr aK aO aT aH aW aS aL ls pl ps tp td pt en bg fa fv mt nx pL sg bo wa gv bw of o)) (kZs hZ 0 rfl) ?_
  refine m_J_run hM 2 rfl ⟨trivial, trivial, trivial⟩ ?_
  refine m_callS (as := [.int x]) (rest := [.ref 70]) (m_EX_warm E N xs) hM rfl kw_X9_95 rfl (y_nq) rfl (Nat.le_of_ble_eq_true rfl) (Nat.le_of_ble_eq_true rfl) (Nat.le_of_ble_eq_true rfl) (fun ht => ⟨ht, Nat.le_refl _⟩) ?_
  rw [hx]
  refine m_J_run hM 1 rfl ⟨trivial, trivial⟩ ?_
  refine m_J_if (fun hc => absurd hc (by decide)) (fun _ => ?_)
  refine m_J_run hM 1 rfl ⟨trivial, trivial⟩ ?_
  refine m_callS (as := [.int y]) (rest := [.ref 70]) (m_EX_warm E N xs) hM rfl kw_X9_95 rfl (y_nq) rfl (Nat.le_of_ble_eq_true rfl) (Nat.le_of_ble_eq_true rfl) (Nat.le_of_ble_eq_true rfl) (fun ht => ⟨ht, Nat.le_refl _⟩) ?_
  rw [hy]
  refine m_J_run hM 1 rfl ⟨trivial, trivial⟩ ?_
  refine m_J_if (fun _ => ?_) (fun hc => absurd (by decide) hc)
  refine m_J_run hM 2 rfl ⟨trivial, trivial, trivial⟩ ?_
  refine m_callV (as := [.int (k_z false), .int (nI 1)]) (rest := []) (m_EX_warm E N xs) hM rfl kw_X9_99 rfl rfl (kZ hZ 0 rfl) ⟨_, rfl, rfl⟩ (y_tif hZ (b := false) (x := nI 1) (th := nI 0)) rfl (Nat.le_of_ble_eq_true rfl) (Nat.le_of_ble_eq_true rfl) (Nat.le_of_ble_eq_true rfl) (fun ht => ⟨ht, by first | (simp; done) | (simp [k_M]; done)⟩) ?_
  refine m_J_eqH (H' := (Z ++ k_M (nI 0) u so fz fs gt yr aK aO aT aH aW aS aL ls pl ps tp td pt en bg fa fv mt nx pL sg bo wa gv bw of o)) rfl ?_
  refine m_J_run hM 1 rfl ⟨trivial, trivial⟩ ?_
  refine m_J_if (fun hc => absurd hc (by decide)) (fun _ => ?_)
  refine m_J_run hM 4 rfl ⟨trivial, trivial, trivial, trivial, trivial⟩ ?_
  refine m_callS (as := [.int w, .int (nI 0), .int (nI 9)]) (rest := [.ref 70]) (m_EX_warm E N xs) hM rfl kw_X9_82 rfl (y_in) rfl (Nat.le_of_ble_eq_true rfl) (Nat.le_of_ble_eq_true rfl) (Nat.le_of_ble_eq_true rfl) (fun ht => ⟨ht, Nat.le_refl _⟩) ?_
  rw [hw]
  refine m_J_run hM 1 rfl ⟨trivial, trivial⟩ ?_
  refine m_J_if (fun hc => absurd hc (by decide)) (fun _ => ?_)
  refine m_J_run hM 3 rfl ⟨trivial, trivial, trivial, trivial⟩ ?_
  refine m_callV (as := [.int (k_z true), .int (nI 2)]) (rest := []) (m_EX_warm E N xs) hM rfl kw_X9_99 rfl rfl (kZ hZ 0 rfl) ⟨_, rfl, rfl⟩ (y_tif hZ (b := true) (x := nI 2) (th := nI 0)) rfl (Nat.le_of_ble_eq_true rfl) (Nat.le_of_ble_eq_true rfl) (Nat.le_of_ble_eq_true rfl) (fun ht => ⟨ht, by first | (simp; done) | (simp [k_M]; done)⟩) ?_
  refine m_J_eqH (H' := (Z ++ k_M (nI 2) u so fz fs gt yr aK aO aT aH aW aS aL ls pl ps tp td pt en bg fa fv mt nx pL sg bo wa gv bw of o)) rfl ?_
  refine m_J_run hM 1 rfl ⟨trivial, trivial⟩ ?_
  refine m_J_if (fun hc => absurd hc (by decide)) (fun _ => ?_)
  exact m_vret hM rfl rfl (Nat.le_of_ble_eq_true rfl) (Nat.le_of_ble_eq_true rfl) (rfl)
set_option maxHeartbeats 2000000 in
theorem y_free (hZ : Z.length = 70) {a : Nat} {b : Bool} (ha : a < 60) (h1 : fz a ≠ b) (h2 : b = true → fs < 5) (h3 : b = false → 0 < fs) (h4 : fs ≤ 5) : m_Dt l (m_EX E N xs) E mM_X9_free (d + 2) 0 0 [.ref 70, .int (nI a), .int (k_z b)] (Z ++ k_M th u so fz fs gt yr aK aO aT aH aW aS aL ls pl ps tp td pt en bg fa fv mt nx pL sg bo wa gv bw of o) tg (some (.int (nI 1))) (Z ++ k_M (nI 0) u so (k_ub fz a b) (if b then fs + 1 else fs - 1) gt yr aK aO aT aH aW aS aL ls pl ps tp td pt en bg fa fv mt nx pL sg bo wa gv bw of o) tg := by
  have hM := mM_X9_free_ok
  refine m_Sp_of (by decide) (Nat.le_of_ble_eq_true rfl) ?_
  refine m_J_run hM 2 rfl ⟨trivial, trivial, trivial⟩ ?_
  refine m_J_putf hM rfl rfl (kZ hZ 0 rfl) (rfl) ?_
  refine m_J_eqH (H' := (Z ++ k_M (nI 0) u so fz fs gt yr aK aO aT aH aW aS aL ls pl ps tp td pt en bg fa fv mt nx pL sg bo wa gv bw of o)) (kZs hZ 0 rfl) ?_
  refine m_J_run hM 2 rfl ⟨trivial, trivial, trivial⟩ ?_
  refine m_callS (as := [.int (nI a)]) (rest := [.ref 70]) (m_EX_warm E N xs) hM rfl kw_X9_95 rfl (y_nq) rfl (Nat.le_of_ble_eq_true rfl) (Nat.le_of_ble_eq_true rfl) (Nat.le_of_ble_eq_true rfl) (fun ht => ⟨ht, Nat.le_refl _⟩) ?_
  rw [k_nq_ok ha]
  refine m_J_run hM 1 rfl ⟨trivial, trivial⟩ ?_
  refine m_callV (as := [.int (k_z false), .int (nI 1)]) (rest := []) (m_EX_warm E N xs) hM rfl kw_X9_99 rfl rfl (kZ hZ 0 rfl) ⟨_, rfl, rfl⟩ (y_tif hZ (b := false) (x := nI 1) (th := nI 0)) rfl (Nat.le_of_ble_eq_true rfl) (Nat.le_of_ble_eq_true rfl) (Nat.le_of_ble_eq_true rfl) (fun ht => ⟨ht, by first | (simp; done) | (simp [k_M]; done)⟩) ?_
  refine m_J_eqH (H' := (Z ++ k_M (nI 0) u so fz fs gt yr aK aO aT aH aW aS aL ls pl ps tp td pt en bg fa fv mt nx pL sg bo wa gv bw of o)) rfl ?_
  refine m_J_run hM 1 rfl ⟨trivial, trivial⟩ ?_
  refine m_J_if (fun hc => absurd hc (by decide)) (fun _ => ?_)
  refine m_J_run hM 1 rfl ⟨trivial, trivial⟩ ?_
  refine m_J_getf hM rfl rfl (kZ hZ 0 rfl) (rfl) ?_
  refine m_J_run hM 1 rfl ⟨trivial, trivial⟩ ?_
  refine m_zaldN hM rfl (kZ hZ 3 rfl) (by omega) (by omega) ?_
  refine m_J_run hM 2 rfl ⟨trivial, trivial, trivial⟩ ?_
  refine m_J_if (fun hc => absurd hc (by cases hb : fz a <;> cases b <;> first | decide | exact absurd hb h1)) (fun _ => ?_)
  refine m_J_run hM 1 rfl ⟨trivial, trivial⟩ ?_
  cases b with
  | true =>
    refine m_J_run hM 1 rfl ⟨trivial, trivial⟩ ?_
    refine m_J_if (fun hc => absurd hc (by decide)) (fun _ => ?_)
    refine m_J_run hM 1 rfl ⟨trivial, trivial⟩ ?_
    refine m_J_getf hM rfl rfl (kZ hZ 0 rfl) (rfl) ?_
    refine m_J_run hM 2 rfl ⟨trivial, trivial, trivial⟩ ?_
    refine m_J_if (fun _ => ?_) (fun hc => absurd (fun q => absurd q (by rw [nI_eq (by omega) (by decide)]; have := h2 rfl; omega)) hc)
    refine m_J_run hM 1 rfl ⟨trivial, trivial⟩ ?_
    refine m_J_getf hM rfl rfl (kZ hZ 0 rfl) (rfl) ?_
    refine m_J_run hM 2 rfl ⟨trivial, trivial, trivial⟩ ?_
    refine m_zastN hM rfl (kZ hZ 3 rfl) (by omega) (by omega) ?_
    refine m_J_eqH (H' := (Z ++ k_M (nI 0) u so (k_ub fz a true) fs gt yr aK aO aT aH aW aS aL ls pl ps tp td pt en bg fa fv mt nx pL sg bo wa gv bw of o)) (kZs hZ 3 (by rw [k_uZ fz a true]; rfl)) ?_
    refine m_J_run hM 2 rfl ⟨trivial, trivial, trivial⟩ ?_
    refine m_J_getf hM rfl rfl (kZ hZ 0 rfl) (rfl) ?_
    refine m_J_run hM 2 rfl ⟨trivial, trivial, trivial⟩ ?_
    refine m_J_if (fun hc => absurd hc (by decide)) (fun _ => ?_)
    refine m_J_run hM 3 rfl ⟨trivial, trivial, trivial, trivial⟩ ?_
    refine m_J_putf hM rfl rfl (kZ hZ 0 rfl) (rfl) ?_
    refine m_J_eqH (H' := (Z ++ k_M (nI 0) u so (k_ub fz a true) (fs + 1) gt yr aK aO aT aH aW aS aL ls pl ps tp td pt en bg fa fv mt nx pL sg bo wa gv bw of o)) (kZs hZ 0 (by rw [← k_succ fs]; rfl)) ?_
    refine m_J_run hM 1 rfl ⟨trivial, trivial⟩ ?_
    exact m_iret hM rfl rfl (by decide) (Nat.le_of_ble_eq_true rfl) (Nat.le_of_ble_eq_true rfl) (rfl) (rfl)
  | false =>
    refine m_J_run hM 1 rfl ⟨trivial, trivial⟩ ?_
    refine m_J_if (fun _ => ?_) (fun hc => absurd (rfl) hc)
    refine m_J_run hM 1 rfl ⟨trivial, trivial⟩ ?_
    refine m_J_getf hM rfl rfl (kZ hZ 0 rfl) (rfl) ?_
    refine m_J_run hM 2 rfl ⟨trivial, trivial, trivial⟩ ?_
    refine m_zastN hM rfl (kZ hZ 3 rfl) (by omega) (by omega) ?_
    refine m_J_eqH (H' := (Z ++ k_M (nI 0) u so (k_ub fz a false) fs gt yr aK aO aT aH aW aS aL ls pl ps tp td pt en bg fa fv mt nx pL sg bo wa gv bw of o)) (kZs hZ 3 (by rw [k_uZ fz a false]; rfl)) ?_
    refine m_J_run hM 2 rfl ⟨trivial, trivial, trivial⟩ ?_
    refine m_J_getf hM rfl rfl (kZ hZ 0 rfl) (rfl) ?_
    refine m_J_run hM 2 rfl ⟨trivial, trivial, trivial⟩ ?_
    refine m_J_if (fun _ => ?_) (fun hc => absurd (rfl) hc)
    refine m_J_run hM 2 rfl ⟨trivial, trivial, trivial⟩ ?_
    refine m_J_putf hM rfl rfl (kZ hZ 0 rfl) (rfl) ?_
    refine m_J_eqH (H' := (Z ++ k_M (nI 0) u so (k_ub fz a false) (fs - 1) gt yr aK aO aT aH aW aS aL ls pl ps tp td pt en bg fa fv mt nx pL sg bo wa gv bw of o)) (kZs hZ 0 (by rw [k_dec (h3 rfl)]; rfl)) ?_
    refine m_J_run hM 1 rfl ⟨trivial, trivial⟩ ?_
    exact m_iret hM rfl rfl (by decide) (Nat.le_of_ble_eq_true rfl) (Nat.le_of_ble_eq_true rfl) (rfl) (rfl)
set_option maxHeartbeats 2000000 in
theorem y_free_n (hZ : Z.length = 70) {a : Nat} {b : Bool} (ha : a < 60) (hx : fz a = b ∨ (b = true ∧ fs = 5)) : m_Dt l (m_EX E N xs) E mM_X9_free (d + 2) 0 0 [.ref 70, .int (nI a), .int (k_z b)] (Z ++ k_M th u so fz fs gt yr aK aO aT aH aW aS aL ls pl ps tp td pt en bg fa fv mt nx pL sg bo wa gv bw of o) tg (some (.int (nI 0))) (Z ++ k_M (nI 0) u so fz fs gt yr aK aO aT aH aW aS aL ls pl ps tp td pt en bg fa fv mt nx pL sg bo wa gv bw of o) tg := by
  have hM := mM_X9_free_ok
  refine m_Sp_of (by decide) (Nat.le_of_ble_eq_true rfl) ?_
  refine m_J_run hM 2 rfl ⟨trivial, trivial, trivial⟩ ?_
  refine m_J_putf hM rfl rfl (kZ hZ 0 rfl) (rfl) ?_
  refine m_J_eqH (H' := (Z ++ k_M (nI 0) u so fz fs gt yr aK aO aT aH aW aS aL ls pl ps tp td pt en bg fa fv mt nx pL sg bo wa gv bw of o)) (kZs hZ 0 rfl) ?_
  refine m_J_run hM 2 rfl ⟨trivial, trivial, trivial⟩ ?_
  refine m_callS (as := [.int (nI a)]) (rest := [.ref 70]) (m_EX_warm E N xs) hM rfl kw_X9_95 rfl (y_nq) rfl (Nat.le_of_ble_eq_true rfl) (Nat.le_of_ble_eq_true rfl) (Nat.le_of_ble_eq_true rfl) (fun ht => ⟨ht, Nat.le_refl _⟩) ?_
  rw [k_nq_ok ha]
  refine m_J_run hM 1 rfl ⟨trivial, trivial⟩ ?_
  refine m_callV (as := [.int (k_z false), .int (nI 1)]) (rest := []) (m_EX_warm E N xs) hM rfl kw_X9_99 rfl rfl (kZ hZ 0 rfl) ⟨_, rfl, rfl⟩ (y_tif hZ (b := false) (x := nI 1) (th := nI 0)) rfl (Nat.le_of_ble_eq_true rfl) (Nat.le_of_ble_eq_true rfl) (Nat.le_of_ble_eq_true rfl) (fun ht => ⟨ht, by first | (simp; done) | (simp [k_M]; done)⟩) ?_
  refine m_J_eqH (H' := (Z ++ k_M (nI 0) u so fz fs gt yr aK aO aT aH aW aS aL ls pl ps tp td pt en bg fa fv mt nx pL sg bo wa gv bw of o)) rfl ?_
  refine m_J_run hM 1 rfl ⟨trivial, trivial⟩ ?_
  refine m_J_if (fun hc => absurd hc (by decide)) (fun _ => ?_)
  refine m_J_run hM 1 rfl ⟨trivial, trivial⟩ ?_
  refine m_J_getf hM rfl rfl (kZ hZ 0 rfl) (rfl) ?_
  refine m_J_run hM 1 rfl ⟨trivial, trivial⟩ ?_
  refine m_zaldN hM rfl (kZ hZ 3 rfl) (by omega) (by omega) ?_
  refine m_J_run hM 1 rfl ⟨trivial, trivial⟩ ?_
  refine m_J_run hM 1 rfl ⟨trivial, trivial⟩ ?_
  refine m_J_if (fun hc => ?_) (fun hc => ?_)
  · refine m_J_run hM 1 rfl ⟨trivial, trivial⟩ ?_
    exact m_iret hM rfl rfl (by decide) (Nat.le_of_ble_eq_true rfl) (Nat.le_of_ble_eq_true rfl) (rfl) (rfl)
  have h2 := hx.resolve_left (fun q => hc (by rw [q]))
  obtain ⟨rfl, rfl⟩ := h2
  refine m_J_run hM 2 rfl ⟨trivial, trivial, trivial⟩ ?_
  refine m_J_if (fun hc => absurd hc (by decide)) (fun _ => ?_)
  refine m_J_run hM 1 rfl ⟨trivial, trivial⟩ ?_
  refine m_J_getf hM rfl rfl (kZ hZ 0 rfl) (rfl) ?_
  refine m_J_run hM 2 rfl ⟨trivial, trivial, trivial⟩ ?_
  refine m_J_if (fun hc => absurd hc (fun q => q rfl)) (fun _ => ?_)
  refine m_J_run hM 1 rfl ⟨trivial, trivial⟩ ?_
  exact m_iret hM rfl rfl (by decide) (Nat.le_of_ble_eq_true rfl) (Nat.le_of_ble_eq_true rfl) (rfl) (rfl)
set_option maxHeartbeats 2000000 in
theorem y_free_1 (hZ : Z.length = 70) {x y : Int32} (hx : k_nq x = true) : m_Dt l (m_EX E N xs) E mM_X9_free (d + 2) 0 0 [.ref 70, .int x, .int y] (Z ++ k_M th u so fz fs gt yr aK aO aT aH aW aS aL ls pl ps tp td pt en bg fa fv mt nx pL sg bo wa gv bw of o) tg (some (.int (nI 0))) (Z ++ k_M (nI 1) u so fz fs gt yr aK aO aT aH aW aS aL ls pl ps tp td pt en bg fa fv mt nx pL sg bo wa gv bw of o) tg := by
  have hM := mM_X9_free_ok
  refine m_Sp_of (by decide) (Nat.le_of_ble_eq_true rfl) ?_
  refine m_J_run hM 2 rfl ⟨trivial, trivial, trivial⟩ ?_
  refine m_J_putf hM rfl rfl (kZ hZ 0 rfl) (rfl) ?_
  refine m_J_eqH (H' := (Z ++ k_M (nI 0) u so fz fs gt yr aK aO aT aH aW aS aL ls pl ps tp td pt en bg fa fv mt nx pL sg bo wa gv bw of o)) (kZs hZ 0 rfl) ?_
  refine m_J_run hM 2 rfl ⟨trivial, trivial, trivial⟩ ?_
  refine m_callS (as := [.int x]) (rest := [.ref 70]) (m_EX_warm E N xs) hM rfl kw_X9_95 rfl (y_nq) rfl (Nat.le_of_ble_eq_true rfl) (Nat.le_of_ble_eq_true rfl) (Nat.le_of_ble_eq_true rfl) (fun ht => ⟨ht, Nat.le_refl _⟩) ?_
  rw [hx]
  refine m_J_run hM 1 rfl ⟨trivial, trivial⟩ ?_
  refine m_callV (as := [.int (k_z true), .int (nI 1)]) (rest := []) (m_EX_warm E N xs) hM rfl kw_X9_99 rfl rfl (kZ hZ 0 rfl) ⟨_, rfl, rfl⟩ (y_tif hZ (b := true) (x := nI 1) (th := nI 0)) rfl (Nat.le_of_ble_eq_true rfl) (Nat.le_of_ble_eq_true rfl) (Nat.le_of_ble_eq_true rfl) (fun ht => ⟨ht, by first | (simp; done) | (simp [k_M]; done)⟩) ?_
  refine m_J_eqH (H' := (Z ++ k_M (nI 1) u so fz fs gt yr aK aO aT aH aW aS aL ls pl ps tp td pt en bg fa fv mt nx pL sg bo wa gv bw of o)) rfl ?_
  refine m_J_run hM 1 rfl ⟨trivial, trivial⟩ ?_
  refine m_J_if (fun _ => ?_) (fun hc => absurd (by decide) hc)
  refine m_J_run hM 1 rfl ⟨trivial, trivial⟩ ?_
  exact m_iret hM rfl rfl (by decide) (Nat.le_of_ble_eq_true rfl) (Nat.le_of_ble_eq_true rfl) (rfl) (rfl)
set_option maxHeartbeats 2000000 in
theorem y_gate (hZ : Z.length = 70) {a : Nat} (ha : a < 60) : m_Dt l (m_EX E N xs) E mM_X9_gate (d + 2) 0 0 [.ref 70, .int (nI a)] (Z ++ k_M th u so fz fs gt yr aK aO aT aH aW aS aL ls pl ps tp td pt en bg fa fv mt nx pL sg bo wa gv bw of o) tg (none) (Z ++ k_M (nI 0) u so fz fs (a) yr aK aO aT aH aW aS aL ls pl ps tp td pt en bg fa fv mt nx pL sg bo wa gv bw of o) tg := by
  have hM := mM_X9_gate_ok
  refine m_Sp_of (by decide) (Nat.le_of_ble_eq_true rfl) ?_
  refine m_J_run hM 2 rfl ⟨trivial, trivial, trivial⟩ ?_
  refine m_J_putf hM rfl rfl (kZ hZ 0 rfl) (rfl) ?_
  refine m_J_eqH (H' := (Z ++ k_M (nI 0) u so fz fs gt yr aK aO aT aH aW aS aL ls pl ps tp td pt en bg fa fv mt nx pL sg bo wa gv bw of o)) (kZs hZ 0 rfl) ?_
  refine m_J_run hM 2 rfl ⟨trivial, trivial, trivial⟩ ?_
  refine m_callS (as := [.int (nI a)]) (rest := [.ref 70]) (m_EX_warm E N xs) hM rfl kw_X9_95 rfl (y_nq) rfl (Nat.le_of_ble_eq_true rfl) (Nat.le_of_ble_eq_true rfl) (Nat.le_of_ble_eq_true rfl) (fun ht => ⟨ht, Nat.le_refl _⟩) ?_
  rw [k_nq_ok ha]
  refine m_J_run hM 1 rfl ⟨trivial, trivial⟩ ?_
  refine m_callV (as := [.int (k_z false), .int (nI 1)]) (rest := []) (m_EX_warm E N xs) hM rfl kw_X9_99 rfl rfl (kZ hZ 0 rfl) ⟨_, rfl, rfl⟩ (y_tif hZ (b := false) (x := nI 1) (th := nI 0)) rfl (Nat.le_of_ble_eq_true rfl) (Nat.le_of_ble_eq_true rfl) (Nat.le_of_ble_eq_true rfl) (fun ht => ⟨ht, by first | (simp; done) | (simp [k_M]; done)⟩) ?_
  refine m_J_eqH (H' := (Z ++ k_M (nI 0) u so fz fs gt yr aK aO aT aH aW aS aL ls pl ps tp td pt en bg fa fv mt nx pL sg bo wa gv bw of o)) rfl ?_
  refine m_J_run hM 1 rfl ⟨trivial, trivial⟩ ?_
  refine m_J_if (fun _ => ?_) (fun hc => absurd (by decide) hc)
  refine m_J_run hM 2 rfl ⟨trivial, trivial, trivial⟩ ?_
  refine m_J_putf hM rfl rfl (kZ hZ 0 rfl) (rfl) ?_
  refine m_J_eqH (H' := (Z ++ k_M (nI 0) u so fz fs (a) yr aK aO aT aH aW aS aL ls pl ps tp td pt en bg fa fv mt nx pL sg bo wa gv bw of o)) (kZs hZ 0 rfl) ?_
  exact m_vret hM rfl rfl (Nat.le_of_ble_eq_true rfl) (Nat.le_of_ble_eq_true rfl) (rfl)
set_option maxHeartbeats 2000000 in
theorem y_gate_1 (hZ : Z.length = 70) {x : Int32} (hx : k_nq x = true) : m_Dt l (m_EX E N xs) E mM_X9_gate (d + 2) 0 0 [.ref 70, .int x] (Z ++ k_M th u so fz fs gt yr aK aO aT aH aW aS aL ls pl ps tp td pt en bg fa fv mt nx pL sg bo wa gv bw of o) tg (none) (Z ++ k_M (nI 1) u so fz fs gt yr aK aO aT aH aW aS aL ls pl ps tp td pt en bg fa fv mt nx pL sg bo wa gv bw of o) tg := by
  have hM := mM_X9_gate_ok
  refine m_Sp_of (by decide) (Nat.le_of_ble_eq_true rfl) ?_
  refine m_J_run hM 2 rfl ⟨trivial, trivial, trivial⟩ ?_
  refine m_J_putf hM rfl rfl (kZ hZ 0 rfl) (rfl) ?_
  refine m_J_eqH (H' := (Z ++ k_M (nI 0) u so fz fs gt yr aK aO aT aH aW aS aL ls pl ps tp td pt en bg fa fv mt nx pL sg bo wa gv bw of o)) (kZs hZ 0 rfl) ?_
  refine m_J_run hM 2 rfl ⟨trivial, trivial, trivial⟩ ?_
  refine m_callS (as := [.int x]) (rest := [.ref 70]) (m_EX_warm E N xs) hM rfl kw_X9_95 rfl (y_nq) rfl (Nat.le_of_ble_eq_true rfl) (Nat.le_of_ble_eq_true rfl) (Nat.le_of_ble_eq_true rfl) (fun ht => ⟨ht, Nat.le_refl _⟩) ?_
  rw [hx]
  refine m_J_run hM 1 rfl ⟨trivial, trivial⟩ ?_
  refine m_callV (as := [.int (k_z true), .int (nI 1)]) (rest := []) (m_EX_warm E N xs) hM rfl kw_X9_99 rfl rfl (kZ hZ 0 rfl) ⟨_, rfl, rfl⟩ (y_tif hZ (b := true) (x := nI 1) (th := nI 0)) rfl (Nat.le_of_ble_eq_true rfl) (Nat.le_of_ble_eq_true rfl) (Nat.le_of_ble_eq_true rfl) (fun ht => ⟨ht, by first | (simp; done) | (simp [k_M]; done)⟩) ?_
  refine m_J_eqH (H' := (Z ++ k_M (nI 1) u so fz fs gt yr aK aO aT aH aW aS aL ls pl ps tp td pt en bg fa fv mt nx pL sg bo wa gv bw of o)) rfl ?_
  refine m_J_run hM 1 rfl ⟨trivial, trivial⟩ ?_
  refine m_J_if (fun hc => absurd hc (by decide)) (fun _ => ?_)
  exact m_vret hM rfl rfl (Nat.le_of_ble_eq_true rfl) (Nat.le_of_ble_eq_true rfl) (rfl)
set_option maxHeartbeats 2000000 in
theorem y_end (hZ : Z.length = 70) {a : Nat} (ha : a ≤ td) (ht : td ≤ 400) : m_Dt l (m_EX E N xs) E mM_X9_end d 0 0 [.ref 70, .int (nI a)] (Z ++ k_M th u so fz fs gt yr aK aO aT aH aW aS aL ls pl ps tp td pt en bg fa fv mt nx pL sg bo wa gv bw of o) tg (some (.int (nI 1))) (Z ++ k_M (nI 0) u so fz fs gt yr aK aO aT aH aW aS aL ls pl ps tp (a) pt en bg fa fv mt nx pL sg bo wa gv bw of o) tg := by
  have hM := mM_X9_end_ok
  refine m_Sp_of (by decide) (Nat.le_of_ble_eq_true rfl) ?_
  refine m_J_run hM 2 rfl ⟨trivial, trivial, trivial⟩ ?_
  refine m_J_putf hM rfl rfl (kZ hZ 0 rfl) (rfl) ?_
  refine m_J_eqH (H' := (Z ++ k_M (nI 0) u so fz fs gt yr aK aO aT aH aW aS aL ls pl ps tp td pt en bg fa fv mt nx pL sg bo wa gv bw of o)) (kZs hZ 0 rfl) ?_
  refine m_J_run hM 2 rfl ⟨trivial, trivial, trivial⟩ ?_
  refine m_J_if (fun hc => absurd hc (nI_pos (by omega))) (fun _ => ?_)
  refine m_J_run hM 2 rfl ⟨trivial, trivial, trivial⟩ ?_
  refine m_J_getf hM rfl rfl (kZ hZ 0 rfl) (rfl) ?_
  refine m_J_run hM 1 rfl ⟨trivial, trivial⟩ ?_
  refine m_J_if (fun _ => ?_) (fun hc => absurd (nI_le ha (by omega)) hc)
  refine m_J_run hM 2 rfl ⟨trivial, trivial, trivial⟩ ?_
  refine m_J_putf hM rfl rfl (kZ hZ 0 rfl) (rfl) ?_
  refine m_J_eqH (H' := (Z ++ k_M (nI 0) u so fz fs gt yr aK aO aT aH aW aS aL ls pl ps tp (a) pt en bg fa fv mt nx pL sg bo wa gv bw of o)) (kZs hZ 0 rfl) ?_
  refine m_J_run hM 1 rfl ⟨trivial, trivial⟩ ?_
  exact m_iret hM rfl rfl (by decide) (Nat.le_of_ble_eq_true rfl) (Nat.le_of_ble_eq_true rfl) (rfl) (rfl)
set_option maxHeartbeats 2000000 in
theorem y_end_n (hZ : Z.length = 70) {x : Int32} (hx : x < 0 ∨ ¬ x ≤ nI td) : m_Dt l (m_EX E N xs) E mM_X9_end d 0 0 [.ref 70, .int x] (Z ++ k_M th u so fz fs gt yr aK aO aT aH aW aS aL ls pl ps tp td pt en bg fa fv mt nx pL sg bo wa gv bw of o) tg (some (.int (nI 0))) (Z ++ k_M (nI 0) u so fz fs gt yr aK aO aT aH aW aS aL ls pl ps tp td pt en bg fa fv mt nx pL sg bo wa gv bw of o) tg := by
  have hM := mM_X9_end_ok
  refine m_Sp_of (by decide) (Nat.le_of_ble_eq_true rfl) ?_
  refine m_J_run hM 2 rfl ⟨trivial, trivial, trivial⟩ ?_
  refine m_J_putf hM rfl rfl (kZ hZ 0 rfl) (rfl) ?_
  refine m_J_eqH (H' := (Z ++ k_M (nI 0) u so fz fs gt yr aK aO aT aH aW aS aL ls pl ps tp td pt en bg fa fv mt nx pL sg bo wa gv bw of o)) (kZs hZ 0 rfl) ?_
  refine m_J_run hM 2 rfl ⟨trivial, trivial, trivial⟩ ?_
  refine m_J_if (fun hc => ?_) (fun hc => ?_)
  · refine m_J_run hM 1 rfl ⟨trivial, trivial⟩ ?_
    exact m_iret hM rfl rfl (by decide) (Nat.le_of_ble_eq_true rfl) (Nat.le_of_ble_eq_true rfl) (rfl) (rfl)
  refine m_J_run hM 2 rfl ⟨trivial, trivial, trivial⟩ ?_
  refine m_J_getf hM rfl rfl (kZ hZ 0 rfl) (rfl) ?_
  refine m_J_run hM 1 rfl ⟨trivial, trivial⟩ ?_
  have hc0 := hc
  refine m_J_if (fun hc => absurd hc (hx.resolve_left hc0)) (fun _ => ?_)
  refine m_J_run hM 1 rfl ⟨trivial, trivial⟩ ?_
  exact m_iret hM rfl rfl (by decide) (Nat.le_of_ble_eq_true rfl) (Nat.le_of_ble_eq_true rfl) (rfl) (rfl)
end
