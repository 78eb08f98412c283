/-! THE MODEL: readWorth, readLine (written by wip/gen_model13.py) -/
def y_pw1 (g : Nat → Int32) (n p v : Nat) (q : kL) (mi : Bool) : (Nat × kL) ⊕ Nat := (y_num g n p 0 99).elim (.inr (k_sb g n p)) fun m => y_pw2 g n (y_np g n p) v q ((if mi then -nI 1 else nI 1) * nI m)
theorem k_m1 (x : Int32) : -nI 1 * x = -x := by rw [show nI 1 = 1 by decide, Int32.neg_mul, Int32.one_mul]
theorem k_p1 (x : Int32) : nI 1 * x = x := by rw [show nI 1 = 1 by decide, Int32.one_mul]
section
variable {l : Launch} {E : mE} {N : Nat} {xs : Nat → Int32} {d : Nat} {tg : Bool} {Z : mH} {h : mH}
variable {th : Int32} {u : Nat → Int32} {so : Nat → Int32} {fz : Nat → Bool} {fs : Nat} {gt : Nat} {yr : Nat} {aK : Nat → Int32} {aO : Nat → Int32} {aT : Nat → Int32} {aH : Nat → Int32} {aW : Nat → Int32} {aS : Nat → Int32} {aL : Nat → Int32} {ls : Nat} {pl : Nat → Int32} {ps : Nat} {tp : Nat → Int32} {td : Nat} {pt : Nat} {en : Nat} {bg : Nat} {fa : Int32} {fv : Nat → Int32} {mt : Nat → Bool} {nx : Nat → Int32} {pL : Nat → Nat} {sg : Nat → Int32} {bo : Nat → Int32} {wa : Nat → Int32} {gv : Nat → Int32} {bw : Int32} {of : Nat → Int32} {o : mH}
set_option maxHeartbeats 4000000 in
set_option maxRecDepth 100000 in
theorem y_rw58 (hZ : Z.length = 70) (hby : ∀ p, p < 400 → k_isb (tp p)) (hen : en ≤ 400) {k v0 : Nat} (q : kL) (hk : k < 28) (hpt : pt ≤ en) (hO : aO k = nI v0) {x9 : Int32} {mi : Bool} {m9 : Nat} : m_J l (m_EX E N xs) E mM_X9_readWorth (d + 7) 0 0 (fun v H tg' => tg' = tg ∧ (∃ (kk oo tt hh ww ss ll : Nat → Int32) (pp bb : Nat), H = (Z ++ k_M th u so fz fs gt yr kk oo tt hh ww ss ll ls pl ps tp td pp en bb fa fv mt nx pL sg bo wa gv bw of o) ∧ y_RP aK aO aT aH aW aS aL k (y_pw2 tp en pt v0 q x9) v kk oo tt hh ww ss ll pp bb)) m_no tg 0 0 (58, [some (.ref 70), some (.int (nI k)), some (.int (k_z mi)), some (.int (nI m9))], [], (Z ++ k_M th u so fz fs gt yr aK aO aT aH (upd aW k x9) aS aL ls pl ps tp td pt en bg fa fv mt nx pL sg bo wa gv bw of o)) := by
  have hM := mM_X9_readWorth_ok
  have hw9 := y_wp_le (g := tp) (n := en) (p := pt) (by omega)
  refine m_J_run hM 1 rfl ⟨trivial, trivial⟩ ?_
  refine m_cV0 hZ hM rfl kw_X9_145 rfl rfl rfl (y_word hZ hby hen (by omega)) k_Ml (Nat.le_of_ble_eq_true rfl) ?_
  refine m_J_run hM 1 rfl ⟨trivial, trivial⟩ ?_
  refine m_J_ldcS (si := 39) hM rfl rfl ?_
  refine m_cV1 hZ hM rfl kw_X9_148 rfl rfl rfl (y_isWord hZ hby hen (b0 := (k_sb tp en pt)) (r := k_rl tp en 97 122 (k_sb tp en pt)) (si := 39) (by omega) (k_rl_le (by omega) (k_sb_le (by omega)).2)) k_Ml (Nat.le_of_ble_eq_true rfl) ?_
  refine m_J_eqH (H' := (Z ++ k_M th u so fz fs gt yr aK aO aT aH (upd aW k x9) aS aL ls pl ps tp td (y_wp tp en pt) en (k_sb tp en pt) fa fv mt nx pL sg bo wa gv bw of o)) rfl ?_
  show m_J _ _ _ _ _ _ _ _ _ _ _ _ (_, _, Value.int (k_z (k_swb tp en pt 39)) :: _, _)
  cases h1 : k_swb tp en pt 39 with
  | false =>
    refine m_J_run hM 1 rfl ⟨trivial, trivial⟩ ?_
    refine m_J_if (fun _ => ?_) (fun hc => absurd (by decide) hc)
    refine m_J_run hM 1 rfl ⟨trivial, trivial⟩ ?_
    refine m_J_getf hM rfl rfl (kZ hZ 0 rfl) (rfl) ?_
    refine m_J_run hM 2 rfl ⟨trivial, trivial, trivial⟩ ?_
    refine m_iastN hM rfl (kZ hZ 4 rfl) (by omega) (by omega) ?_
    refine m_J_eqH (H' := (Z ++ k_M th u so fz fs gt yr (upd aK k (nI 1)) aO aT aH (upd aW k x9) aS aL ls pl ps tp td (y_wp tp en pt) en (k_sb tp en pt) fa fv mt nx pL sg bo wa gv bw of o)) (kZs hZ 4 (rfl)) ?_
    refine m_J_run hM 1 rfl ⟨trivial, trivial⟩ ?_
    refine m_J_ldcS (si := 41) hM rfl rfl ?_
    refine m_cV1 hZ hM rfl kw_X9_148 rfl rfl rfl (y_isWord hZ hby hen (b0 := (k_sb tp en pt)) (r := k_rl tp en 97 122 (k_sb tp en pt)) (si := 41) (by omega) (k_rl_le (by omega) (k_sb_le (by omega)).2)) k_Ml (Nat.le_of_ble_eq_true rfl) ?_
    refine m_J_eqH (H' := (Z ++ k_M th u so fz fs gt yr (upd aK k (nI 1)) aO aT aH (upd aW k x9) aS aL ls pl ps tp td (y_wp tp en pt) en (k_sb tp en pt) fa fv mt nx pL sg bo wa gv bw of o)) rfl ?_
    show m_J _ _ _ _ _ _ _ _ _ _ _ _ (_, _, Value.int (k_z (k_swb tp en pt 41)) :: _, _)
    cases h2 : k_swb tp en pt 41 with
    | false =>
      refine m_J_run hM 1 rfl ⟨trivial, trivial⟩ ?_
      refine m_J_if (fun hc => absurd hc (by decide)) (fun _ => ?_)
      refine m_J_run hM 1 rfl ⟨trivial, trivial⟩ ?_
      exact m_J_iret hM rfl rfl (by decide) (Nat.le_of_ble_eq_true rfl) (Nat.le_of_ble_eq_true rfl) (⟨rfl, _, _, _, _, _, _, _, _, _, rfl, fun j hj => by simp [upd, hj], by rw [show y_pw2 tp en pt v0 q x9 = .inr (k_sb tp en pt) by simp [y_pw2, h1, h2]]; exact ⟨rfl, rfl⟩⟩)
    | true =>
      refine m_J_run hM 1 rfl ⟨trivial, trivial⟩ ?_
      refine m_J_if (fun _ => ?_) (fun hc => absurd (by decide) hc)
      refine m_J_run hM 1 rfl ⟨trivial, trivial⟩ ?_
      refine m_J_getf hM rfl rfl (kZ hZ 0 rfl) (rfl) ?_
      refine m_J_run hM 4 rfl ⟨trivial, trivial, trivial, trivial, trivial⟩ ?_
      refine m_cV2 hZ hM rfl kw_X9_167 rfl rfl rfl (y_number hZ hby hen (by omega) (by omega) (by omega)) k_Ml (Nat.le_of_ble_eq_true rfl) ?_
      have hw44 := y_np_le (g := tp) (n := en) (p := (y_wp tp en pt)) (by omega)
      cases hN : y_num tp en (y_wp tp en pt) 0 9 with
      | none =>
        rw [k_on_n]
        refine m_iastN hM rfl (kZ hZ 9 rfl) (by omega) (by omega) ?_
        refine m_J_eqH (H' := (Z ++ k_M th u so fz fs gt yr (upd aK k (nI 1)) aO aT aH (upd aW k x9) (upd aS k (-nI 1)) aL ls pl ps tp td (y_np tp en (y_wp tp en pt)) en (k_sb tp en (y_wp tp en pt)) fa fv mt nx pL sg bo wa gv bw of o)) (kZs hZ 9 (rfl)) ?_
        refine m_J_run hM 1 rfl ⟨trivial, trivial⟩ ?_
        refine m_J_getf hM rfl rfl (kZ hZ 0 rfl) (rfl) ?_
        refine m_J_run hM 1 rfl ⟨trivial, trivial⟩ ?_
        refine m_ialdN hM rfl (kZ hZ 9 rfl) (by omega) (by omega) ?_
        rw [pk_us]
        refine m_J_run hM 1 rfl ⟨trivial, trivial⟩ ?_
        refine m_J_if (fun _ => ?_) (fun hc => absurd (by decide) hc)
        refine m_J_run hM 1 rfl ⟨trivial, trivial⟩ ?_
        exact m_J_iret hM rfl rfl (by decide) (Nat.le_of_ble_eq_true rfl) (Nat.le_of_ble_eq_true rfl) (⟨rfl, _, _, _, _, _, _, _, _, _, rfl, fun j hj => by simp [upd, hj], by rw [show y_pw2 tp en pt v0 q x9 = .inr (k_sb tp en (y_wp tp en pt)) by simp [y_pw2, h1, h2, hN]]; exact ⟨rfl, rfl⟩⟩)
      | some m =>
        rw [k_on_s]
        have hNt := y_num_b (by omega) (by omega) hN
        refine m_iastN hM rfl (kZ hZ 9 rfl) (by omega) (by omega) ?_
        refine m_J_eqH (H' := (Z ++ k_M th u so fz fs gt yr (upd aK k (nI 1)) aO aT aH (upd aW k x9) (upd aS k (nI m)) aL ls pl ps tp td (y_np tp en (y_wp tp en pt)) en (k_sb tp en (y_wp tp en pt)) fa fv mt nx pL sg bo wa gv bw of o)) (kZs hZ 9 (rfl)) ?_
        refine m_J_run hM 1 rfl ⟨trivial, trivial⟩ ?_
        refine m_J_getf hM rfl rfl (kZ hZ 0 rfl) (rfl) ?_
        refine m_J_run hM 1 rfl ⟨trivial, trivial⟩ ?_
        refine m_ialdN hM rfl (kZ hZ 9 rfl) (by omega) (by omega) ?_
        rw [pk_us]
        refine m_J_run hM 1 rfl ⟨trivial, trivial⟩ ?_
        refine m_J_if (fun hc => absurd hc (nI_pos (by omega))) (fun _ => ?_)
        refine m_J_run hM 2 rfl ⟨trivial, trivial, trivial⟩ ?_
        exact m_J_iret hM rfl rfl (by decide) (Nat.le_of_ble_eq_true rfl) (Nat.le_of_ble_eq_true rfl) (⟨rfl, _, _, _, _, _, _, _, _, _, rfl, fun j hj => by simp [upd, hj], by rw [show y_pw2 tp en pt v0 q x9 = .inl (y_np tp en (y_wp tp en pt), (1, v0, q.2.2.1, q.2.2.2.1, q.2.2.2.2.1, m, x9)) by simp [y_pw2, h1, h2, hN]]; exact ⟨rfl, rfl, by simp [y_LR, upd, hO]⟩⟩)
  | true =>
    refine m_J_run hM 1 rfl ⟨trivial, trivial⟩ ?_
    refine m_J_if (fun hc => absurd hc (by decide)) (fun _ => ?_)
    refine m_J_run hM 1 rfl ⟨trivial, trivial⟩ ?_
    refine m_J_getf hM rfl rfl (kZ hZ 0 rfl) (rfl) ?_
    refine m_J_run hM 2 rfl ⟨trivial, trivial, trivial⟩ ?_
    refine m_iastN hM rfl (kZ hZ 4 rfl) (by omega) (by omega) ?_
    refine m_J_eqH (H' := (Z ++ k_M th u so fz fs gt yr (upd aK k (nI 0)) aO aT aH (upd aW k x9) aS aL ls pl ps tp td (y_wp tp en pt) en (k_sb tp en pt) fa fv mt nx pL sg bo wa gv bw of o)) (kZs hZ 4 (rfl)) ?_
    refine m_J_run hM 1 rfl ⟨trivial, trivial⟩ ?_
    refine m_J_getf hM rfl rfl (kZ hZ 0 rfl) (rfl) ?_
    refine m_J_run hM 2 rfl ⟨trivial, trivial, trivial⟩ ?_
    refine m_cV0 hZ hM rfl kw_X9_172 rfl rfl rfl (y_readUse hZ hby hen (by omega)) k_Ml (Nat.le_of_ble_eq_true rfl) ?_
    have hw85 := y_wp_le (g := tp) (n := en) (p := (y_wp tp en pt)) (by omega)
    cases hV : y_uq tp en (y_wp tp en pt) with
    | none =>
      rw [k_on_n]
      refine m_iastN hM rfl (kZ hZ 6 rfl) (by omega) (by omega) ?_
      refine m_J_eqH (H' := (Z ++ k_M th u so fz fs gt yr (upd aK k (nI 0)) aO (upd aT k (-nI 1)) aH (upd aW k x9) aS aL ls pl ps tp td (y_wp tp en (y_wp tp en pt)) en (k_sb tp en (y_wp tp en pt)) fa fv mt nx pL sg bo wa gv bw of o)) (kZs hZ 6 (rfl)) ?_
      refine m_J_run hM 1 rfl ⟨trivial, trivial⟩ ?_
      refine m_J_getf hM rfl rfl (kZ hZ 0 rfl) (rfl) ?_
      refine m_J_run hM 1 rfl ⟨trivial, trivial⟩ ?_
      refine m_ialdN hM rfl (kZ hZ 6 rfl) (by omega) (by omega) ?_
      rw [pk_us]
      refine m_J_run hM 1 rfl ⟨trivial, trivial⟩ ?_
      refine m_J_if (fun hc => absurd hc (by decide)) (fun _ => ?_)
      refine m_J_run hM 1 rfl ⟨trivial, trivial⟩ ?_
      exact m_J_iret hM rfl rfl (by decide) (Nat.le_of_ble_eq_true rfl) (Nat.le_of_ble_eq_true rfl) (⟨rfl, _, _, _, _, _, _, _, _, _, rfl, fun j hj => by simp [upd, hj], by rw [show y_pw2 tp en pt v0 q x9 = .inr (k_sb tp en (y_wp tp en pt)) by simp [y_pw2, h1, hV]]; exact ⟨rfl, rfl⟩⟩)
    | some w =>
      rw [k_on_s]
      have hVt := y_uq_lt hV
      refine m_iastN hM rfl (kZ hZ 6 rfl) (by omega) (by omega) ?_
      refine m_J_eqH (H' := (Z ++ k_M th u so fz fs gt yr (upd aK k (nI 0)) aO (upd aT k (nI w)) aH (upd aW k x9) aS aL ls pl ps tp td (y_wp tp en (y_wp tp en pt)) en (k_sb tp en (y_wp tp en pt)) fa fv mt nx pL sg bo wa gv bw of o)) (kZs hZ 6 (rfl)) ?_
      refine m_J_run hM 1 rfl ⟨trivial, trivial⟩ ?_
      refine m_J_getf hM rfl rfl (kZ hZ 0 rfl) (rfl) ?_
      refine m_J_run hM 1 rfl ⟨trivial, trivial⟩ ?_
      refine m_ialdN hM rfl (kZ hZ 6 rfl) (by omega) (by omega) ?_
      rw [pk_us]
      refine m_J_run hM 1 rfl ⟨trivial, trivial⟩ ?_
      refine m_J_if (fun _ => ?_) (fun hc => absurd (nI_pos' (by omega)) hc)
      refine m_J_run hM 1 rfl ⟨trivial, trivial⟩ ?_
      refine m_J_getf hM rfl rfl (kZ hZ 0 rfl) (rfl) ?_
      refine m_J_run hM 4 rfl ⟨trivial, trivial, trivial, trivial, trivial⟩ ?_
      refine m_cV2 hZ hM rfl kw_X9_167 rfl rfl rfl (y_number hZ hby hen (by omega) (by omega) (by omega)) k_Ml (Nat.le_of_ble_eq_true rfl) ?_
      have hw116 := y_np_le (g := tp) (n := en) (p := (y_wp tp en (y_wp tp en pt))) (by omega)
      cases hN : y_num tp en (y_wp tp en (y_wp tp en pt)) 1 5 with
      | none =>
        rw [k_on_n]
        refine m_iastN hM rfl (kZ hZ 9 rfl) (by omega) (by omega) ?_
        refine m_J_eqH (H' := (Z ++ k_M th u so fz fs gt yr (upd aK k (nI 0)) aO (upd aT k (nI w)) aH (upd aW k x9) (upd aS k (-nI 1)) aL ls pl ps tp td (y_np tp en (y_wp tp en (y_wp tp en pt))) en (k_sb tp en (y_wp tp en (y_wp tp en pt))) fa fv mt nx pL sg bo wa gv bw of o)) (kZs hZ 9 (rfl)) ?_
        refine m_J_run hM 1 rfl ⟨trivial, trivial⟩ ?_
        refine m_J_getf hM rfl rfl (kZ hZ 0 rfl) (rfl) ?_
        refine m_J_run hM 1 rfl ⟨trivial, trivial⟩ ?_
        refine m_ialdN hM rfl (kZ hZ 9 rfl) (by omega) (by omega) ?_
        rw [pk_us]
        refine m_J_run hM 1 rfl ⟨trivial, trivial⟩ ?_
        refine m_J_if (fun _ => ?_) (fun hc => absurd (by decide) hc)
        refine m_J_run hM 1 rfl ⟨trivial, trivial⟩ ?_
        exact m_J_iret hM rfl rfl (by decide) (Nat.le_of_ble_eq_true rfl) (Nat.le_of_ble_eq_true rfl) (⟨rfl, _, _, _, _, _, _, _, _, _, rfl, fun j hj => by simp [upd, hj], by rw [show y_pw2 tp en pt v0 q x9 = .inr (k_sb tp en (y_wp tp en (y_wp tp en pt))) by simp [y_pw2, h1, hV, hN]]; exact ⟨rfl, rfl⟩⟩)
      | some m =>
        rw [k_on_s]
        have hNt := y_num_b (by omega) (by omega) hN
        refine m_iastN hM rfl (kZ hZ 9 rfl) (by omega) (by omega) ?_
        refine m_J_eqH (H' := (Z ++ k_M th u so fz fs gt yr (upd aK k (nI 0)) aO (upd aT k (nI w)) aH (upd aW k x9) (upd aS k (nI m)) aL ls pl ps tp td (y_np tp en (y_wp tp en (y_wp tp en pt))) en (k_sb tp en (y_wp tp en (y_wp tp en pt))) fa fv mt nx pL sg bo wa gv bw of o)) (kZs hZ 9 (rfl)) ?_
        refine m_J_run hM 1 rfl ⟨trivial, trivial⟩ ?_
        refine m_J_getf hM rfl rfl (kZ hZ 0 rfl) (rfl) ?_
        refine m_J_run hM 1 rfl ⟨trivial, trivial⟩ ?_
        refine m_ialdN hM rfl (kZ hZ 9 rfl) (by omega) (by omega) ?_
        rw [pk_us]
        refine m_J_run hM 1 rfl ⟨trivial, trivial⟩ ?_
        refine m_J_if (fun hc => absurd hc (nI_pos (by omega))) (fun _ => ?_)
        refine m_J_run hM 2 rfl ⟨trivial, trivial, trivial⟩ ?_
        exact m_J_iret hM rfl rfl (by decide) (Nat.le_of_ble_eq_true rfl) (Nat.le_of_ble_eq_true rfl) (⟨rfl, _, _, _, _, _, _, _, _, _, rfl, fun j hj => by simp [upd, hj], by rw [show y_pw2 tp en pt v0 q x9 = .inl (y_np tp en (y_wp tp en (y_wp tp en pt)), (0, v0, w, q.2.2.2.1, m, q.2.2.2.2.2.1, x9)) by simp [y_pw2, h1, hV, hN]]; exact ⟨rfl, rfl, by simp [y_LR, upd, hO]⟩⟩)
set_option maxHeartbeats 4000000 in
set_option maxRecDepth 100000 in
theorem y_rw28 (hZ : Z.length = 70) (hby : ∀ p, p < 400 → k_isb (tp p)) (hen : en ≤ 400) {k v0 : Nat} (q : kL) (hk : k < 28) (hpt : pt ≤ en) (hO : aO k = nI v0) {mi : Bool} : m_J l (m_EX E N xs) E mM_X9_readWorth (d + 7) 0 0 (fun v H tg' => tg' = tg ∧ (∃ (kk oo tt hh ww ss ll : Nat → Int32) (pp bb : Nat), H = (Z ++ k_M th u so fz fs gt yr kk oo tt hh ww ss ll ls pl ps tp td pp en bb fa fv mt nx pL sg bo wa gv bw of o) ∧ y_RP aK aO aT aH aW aS aL k (y_pw1 tp en pt v0 q mi) v kk oo tt hh ww ss ll pp bb)) m_no tg 0 0 (28, [some (.ref 70), some (.int (nI k)), some (.int (k_z mi)), none], [], (Z ++ k_M th u so fz fs gt yr aK aO aT aH aW aS aL ls pl ps tp td pt en bg fa fv mt nx pL sg bo wa gv bw of o)) := by
  have hM := mM_X9_readWorth_ok
  refine m_J_run hM 3 rfl ⟨trivial, trivial, trivial, trivial⟩ ?_
  refine m_cV2 hZ hM rfl kw_X9_167 rfl rfl rfl (y_number hZ hby hen (by omega) (by omega) (by omega)) k_Ml (Nat.le_of_ble_eq_true rfl) ?_
  have hw151 := y_np_le (g := tp) (n := en) (p := pt) (by omega)
  cases hN : y_num tp en pt 0 99 with
  | none =>
    rw [k_on_n]
    refine m_J_run hM 3 rfl ⟨trivial, trivial, trivial, trivial⟩ ?_
    refine m_J_if (fun hc => absurd hc (by decide)) (fun _ => ?_)
    refine m_J_run hM 1 rfl ⟨trivial, trivial⟩ ?_
    exact m_J_iret hM rfl rfl (by decide) (Nat.le_of_ble_eq_true rfl) (Nat.le_of_ble_eq_true rfl) (⟨rfl, _, _, _, _, _, _, _, _, _, rfl, fun j hj => by simp [upd, hj], by rw [show y_pw1 tp en pt v0 q mi = .inr (k_sb tp en pt) by simp [y_pw1, hN]]; exact ⟨rfl, rfl⟩⟩)
  | some m =>
    rw [k_on_s]
    have hNt := y_num_b (by omega) (by omega) hN
    refine m_J_run hM 3 rfl ⟨trivial, trivial, trivial, trivial⟩ ?_
    refine m_J_if (fun _ => ?_) (fun hc => absurd (nI_pos' (by omega)) hc)
    refine m_J_run hM 1 rfl ⟨trivial, trivial⟩ ?_
    refine m_J_getf hM rfl rfl (kZ hZ 0 rfl) (rfl) ?_
    refine m_J_run hM 2 rfl ⟨trivial, trivial, trivial⟩ ?_
    cases mi with
    | false =>
      refine m_J_run hM 1 rfl ⟨trivial, trivial⟩ ?_
      refine m_J_if (fun _ => ?_) (fun hc => absurd (by decide) hc)
      refine m_J_run hM 1 rfl ⟨trivial, trivial⟩ ?_
      refine m_iastN hM rfl (kZ hZ 8 rfl) (by omega) (by omega) ?_
      refine m_J_eqH (H' := (Z ++ k_M th u so fz fs gt yr aK aO aT aH (upd aW k (nI m)) aS aL ls pl ps tp td (y_np tp en pt) en (k_sb tp en pt) fa fv mt nx pL sg bo wa gv bw of o)) (kZs hZ 8 (rfl)) ?_
      rw [show y_pw1 tp en pt v0 q false = y_pw2 tp en (y_np tp en pt) v0 q (nI m) by simp [y_pw1, hN, k_m1, k_p1]]
      exact y_rw58 hZ hby hen q hk (by omega) hO
    | true =>
      refine m_J_run hM 1 rfl ⟨trivial, trivial⟩ ?_
      refine m_J_if (fun hc => absurd hc (by decide)) (fun _ => ?_)
      refine m_J_run hM 3 rfl ⟨trivial, trivial, trivial, trivial⟩ ?_
      refine m_iastN hM rfl (kZ hZ 8 rfl) (by omega) (by omega) ?_
      refine m_J_eqH (H' := (Z ++ k_M th u so fz fs gt yr aK aO aT aH (upd aW k (-(nI m))) aS aL ls pl ps tp td (y_np tp en pt) en (k_sb tp en pt) fa fv mt nx pL sg bo wa gv bw of o)) (kZs hZ 8 (rfl)) ?_
      rw [show y_pw1 tp en pt v0 q true = y_pw2 tp en (y_np tp en pt) v0 q (-(nI m)) by simp [y_pw1, hN, k_m1, k_p1]]
      exact y_rw58 hZ hby hen q hk (by omega) hO
set_option maxHeartbeats 4000000 in
set_option maxRecDepth 100000 in
theorem y_readWorth (hZ : Z.length = 70) (hby : ∀ p, p < 400 → k_isb (tp p)) (hen : en ≤ 400) {k v0 : Nat} (q : kL) (hk : k < 28) (hpt : pt ≤ en) (hO : aO k = nI v0) : m_Sp l (m_EX E N xs) E mM_X9_readWorth (d + 7) 0 0 [.ref 70, .int (nI k)] (Z ++ k_M th u so fz fs gt yr aK aO aT aH aW aS aL ls pl ps tp td pt en bg fa fv mt nx pL sg bo wa gv bw of o) tg (fun v H tg' => tg' = tg ∧ (∃ (kk oo tt hh ww ss ll : Nat → Int32) (pp bb : Nat), H = (Z ++ k_M th u so fz fs gt yr kk oo tt hh ww ss ll ls pl ps tp td pp en bb fa fv mt nx pL sg bo wa gv bw of o) ∧ y_RP aK aO aT aH aW aS aL k (y_pworth tp en pt v0 q) v kk oo tt hh ww ss ll pp bb)) m_no := by
  have hM := mM_X9_readWorth_ok
  refine m_Sp_of (by decide) (Nat.le_of_ble_eq_true rfl) ?_
  have hw189 := y_wp_le (g := tp) (n := en) (p := pt) (by omega)
  have hsb := (k_sb_le (g := tp) (n := en) (p := pt) hpt).2
  refine m_J_run hM 1 rfl ⟨trivial, trivial⟩ ?_
  refine m_cV0 hZ hM rfl kw_X9_145 rfl rfl rfl (y_word hZ hby hen (by omega)) k_Ml (Nat.le_of_ble_eq_true rfl) ?_
  refine m_J_run hM 1 rfl ⟨trivial, trivial⟩ ?_
  refine m_J_ldcS (si := 40) hM rfl rfl ?_
  refine m_cV1 hZ hM rfl kw_X9_148 rfl rfl rfl (y_isWord hZ hby hen (b0 := (k_sb tp en pt)) (r := k_rl tp en 97 122 (k_sb tp en pt)) (si := 40) (by omega) (k_rl_le (by omega) (k_sb_le (by omega)).2)) k_Ml (Nat.le_of_ble_eq_true rfl) ?_
  refine m_J_eqH (H' := (Z ++ k_M th u so fz fs gt yr aK aO aT aH aW aS aL ls pl ps tp td (y_wp tp en pt) en (k_sb tp en pt) fa fv mt nx pL sg bo wa gv bw of o)) rfl ?_
  show m_J _ _ _ _ _ _ _ _ _ _ _ _ (_, _, Value.int (k_z (k_swb tp en pt 40)) :: _, _)
  refine m_J_run hM 2 rfl ⟨trivial, trivial, trivial⟩ ?_
  cases h1 : k_swb tp en pt 40 with
  | true =>
    refine m_J_run hM 1 rfl ⟨trivial, trivial⟩ ?_
    refine m_J_if (fun _ => ?_) (fun hc => absurd (by decide) hc)
    rw [show y_pworth tp en pt v0 q = y_pw1 tp en (y_wp tp en pt) v0 q true by simp [y_pworth, y_pw1, h1]]
    exact y_rw28 hZ hby hen q hk (by omega) hO
  | false =>
    refine m_J_run hM 1 rfl ⟨trivial, trivial⟩ ?_
    refine m_J_if (fun hc => absurd hc (by decide)) (fun _ => ?_)
    refine m_J_run hM 1 rfl ⟨trivial, trivial⟩ ?_
    refine m_J_getf hM rfl rfl (kZ hZ 0 rfl) (rfl) ?_
    refine m_J_run hM 1 rfl ⟨trivial, trivial⟩ ?_
    refine m_J_getf hM rfl rfl (kZ hZ 0 rfl) (rfl) ?_
    refine m_J_run hM 1 rfl ⟨trivial, trivial⟩ ?_
    refine m_J_if (fun h2 => ?_) (fun h2 => ?_)
    ·
      rw [nI_leI (by omega) (by omega)] at h2
      have h3 : k_rl tp en 97 122 (k_sb tp en pt) = 0 := by unfold y_wp at h2; omega
      rw [show y_pworth tp en pt v0 q = y_pw1 tp en (y_wp tp en pt) v0 q false by simp [y_pworth, y_pw1, h1, h3]]
      exact y_rw28 hZ hby hen q hk (by omega) hO
    ·
      rw [nI_leI (by omega) (by omega)] at h2
      have h3 : ¬ k_rl tp en 97 122 (k_sb tp en pt) = 0 := by unfold y_wp at h2; omega
      refine m_J_run hM 1 rfl ⟨trivial, trivial⟩ ?_
      exact m_J_iret hM rfl rfl (by decide) (Nat.le_of_ble_eq_true rfl) (Nat.le_of_ble_eq_true rfl) (⟨rfl, _, _, _, _, _, _, _, _, _, rfl, fun j hj => by simp [upd, hj], by rw [show y_pworth tp en pt v0 q = .inr (k_sb tp en pt) by simp [y_pworth, h1, h3]]; exact ⟨rfl, rfl⟩⟩)
set_option maxHeartbeats 4000000 in
set_option maxRecDepth 100000 in
theorem y_readLine (hZ : Z.length = 70) (hby : ∀ p, p < 400 → k_isb (tp p)) (hen : en ≤ 400) {n9 : Nat} (q : kL) (hpt : pt ≤ en) (hn : n9 < 14) : m_Sp l (m_EX E N xs) E mM_X9_readLine (d + 8) 0 0 [.ref 70, .int (nI n9)] (Z ++ k_M th u so fz fs gt yr aK aO aT aH aW aS aL ls pl ps tp td pt en bg fa fv mt nx pL sg bo wa gv bw of o) tg (fun v H tg' => tg' = tg ∧ (∃ (kk oo tt hh ww ss ll : Nat → Int32) (pp bb : Nat), H = (Z ++ k_M th u so fz fs gt yr kk oo tt hh ww ss ll ls pl ps tp td pp en bb fa fv mt nx pL sg bo wa gv bw of o) ∧ y_RP aK aO aT aH aW aS aL (14 + n9) (y_pline tp en pt q) v kk oo tt hh ww ss ll pp bb)) m_no := by
  have hM := mM_X9_readLine_ok
  refine m_Sp_of (by decide) (Nat.le_of_ble_eq_true rfl) ?_
  have hw229 := y_wp_le (g := tp) (n := en) (p := pt) (by omega)
  refine m_J_run hM 1 rfl ⟨trivial, trivial⟩ ?_
  refine m_cV0 hZ hM rfl kw_X9_145 rfl rfl rfl (y_word hZ hby hen (by omega)) k_Ml (Nat.le_of_ble_eq_true rfl) ?_
  refine m_J_run hM 3 rfl ⟨trivial, trivial, trivial, trivial⟩ ?_
  refine m_J_if (fun _ => ?_) (fun hc => absurd (fun q => absurd ((nI_eq (by omega) (by omega)).mp q) (by omega)) hc)
  refine m_J_run hM 5 rfl ⟨trivial, trivial, trivial, trivial, trivial, trivial⟩ ?_
  rw [nI_add 14 n9]
  refine m_J_ldcS (si := 26) hM rfl rfl ?_
  refine m_cV1 hZ hM rfl kw_X9_148 rfl rfl rfl (y_isWord hZ hby hen (b0 := (k_sb tp en pt)) (r := k_rl tp en 97 122 (k_sb tp en pt)) (si := 26) (by omega) (k_rl_le (by omega) (k_sb_le (by omega)).2)) k_Ml (Nat.le_of_ble_eq_true rfl) ?_
  refine m_J_eqH (H' := (Z ++ k_M th u so fz fs gt yr aK aO aT aH aW aS aL ls pl ps tp td (y_wp tp en pt) en (k_sb tp en pt) fa fv mt nx pL sg bo wa gv bw of o)) rfl ?_
  show m_J _ _ _ _ _ _ _ _ _ _ _ _ (_, _, Value.int (k_z (k_swb tp en pt 26)) :: _, _)
  cases h1 : k_swb tp en pt 26 with
  | true =>
    refine m_J_run hM 1 rfl ⟨trivial, trivial⟩ ?_
    refine m_J_if (fun hc => absurd hc (by decide)) (fun _ => ?_)
    refine m_J_run hM 2 rfl ⟨trivial, trivial, trivial⟩ ?_
    refine m_cVp1 hZ hM rfl kw_X9_193 rfl rfl rfl (y_readLaw hZ hby hen q (by omega) (by omega)) (Nat.le_of_ble_eq_true rfl) (fun v9 h9 hp9 => ?_)
    obtain ⟨kk, oo, tt, hh, ww, ss, ll, pp, bb, rfl, hR1, hR2⟩ := hp9
    refine ⟨k_le k_Ml, ?_⟩
    cases hres : y_plaw tp en (y_wp tp en pt) q with
    | inl x =>
      rw [hres] at hR2
      obtain ⟨rfl, hp, hl⟩ := hR2
      refine m_J_eqH (H' := (Z ++ k_M th u so fz fs gt yr kk oo tt hh ww ss ll ls pl ps tp td pp en bb fa fv mt nx pL sg bo wa gv bw of o)) rfl ?_
      exact m_J_iret hM rfl rfl (by decide) (Nat.le_of_ble_eq_true rfl) (Nat.le_of_ble_eq_true rfl) (⟨rfl, kk, oo, tt, hh, ww, ss, ll, pp, bb, rfl, hR1, by rw [show y_pline tp en pt q = .inl x by simp [y_pline, h1, hres]]; exact ⟨rfl, hp, hl⟩⟩)
    | inr e =>
      rw [hres] at hR2
      obtain ⟨rfl, he⟩ := hR2
      refine m_J_eqH (H' := (Z ++ k_M th u so fz fs gt yr kk oo tt hh ww ss ll ls pl ps tp td pp en bb fa fv mt nx pL sg bo wa gv bw of o)) rfl ?_
      exact m_J_iret hM rfl rfl (by decide) (Nat.le_of_ble_eq_true rfl) (Nat.le_of_ble_eq_true rfl) (⟨rfl, kk, oo, tt, hh, ww, ss, ll, pp, bb, rfl, hR1, by rw [show y_pline tp en pt q = .inr e by simp [y_pline, h1, hres]]; exact ⟨rfl, he⟩⟩)
  | false =>
    refine m_J_run hM 1 rfl ⟨trivial, trivial⟩ ?_
    refine m_J_if (fun _ => ?_) (fun hc => absurd (by decide) hc)
    refine m_J_run hM 1 rfl ⟨trivial, trivial⟩ ?_
    refine m_J_ldcS (si := 36) hM rfl rfl ?_
    refine m_cV1 hZ hM rfl kw_X9_148 rfl rfl rfl (y_isWord hZ hby hen (b0 := (k_sb tp en pt)) (r := k_rl tp en 97 122 (k_sb tp en pt)) (si := 36) (by omega) (k_rl_le (by omega) (k_sb_le (by omega)).2)) k_Ml (Nat.le_of_ble_eq_true rfl) ?_
    refine m_J_eqH (H' := (Z ++ k_M th u so fz fs gt yr aK aO aT aH aW aS aL ls pl ps tp td (y_wp tp en pt) en (k_sb tp en pt) fa fv mt nx pL sg bo wa gv bw of o)) rfl ?_
    show m_J _ _ _ _ _ _ _ _ _ _ _ _ (_, _, Value.int (k_z (k_swb tp en pt 36)) :: _, _)
    cases h2 : k_swb tp en pt 36 with
    | true =>
      refine m_J_run hM 1 rfl ⟨trivial, trivial⟩ ?_
      refine m_J_if (fun hc => absurd hc (by decide)) (fun _ => ?_)
      refine m_J_run hM 2 rfl ⟨trivial, trivial, trivial⟩ ?_
      refine m_cVp1 hZ hM rfl kw_X9_198 rfl rfl rfl (y_readGrow hZ hby hen q (by omega) (by omega)) (Nat.le_of_ble_eq_true rfl) (fun v9 h9 hp9 => ?_)
      obtain ⟨kk, oo, tt, hh, ww, ss, ll, pp, bb, rfl, hR1, hR2⟩ := hp9
      refine ⟨k_le k_Ml, ?_⟩
      cases hres : y_pgrow tp en (y_wp tp en pt) q with
      | inl x =>
        rw [hres] at hR2
        obtain ⟨rfl, hp, hl⟩ := hR2
        refine m_J_eqH (H' := (Z ++ k_M th u so fz fs gt yr kk oo tt hh ww ss ll ls pl ps tp td pp en bb fa fv mt nx pL sg bo wa gv bw of o)) rfl ?_
        exact m_J_iret hM rfl rfl (by decide) (Nat.le_of_ble_eq_true rfl) (Nat.le_of_ble_eq_true rfl) (⟨rfl, kk, oo, tt, hh, ww, ss, ll, pp, bb, rfl, hR1, by rw [show y_pline tp en pt q = .inl x by simp [y_pline, h1, h2, hres]]; exact ⟨rfl, hp, hl⟩⟩)
      | inr e =>
        rw [hres] at hR2
        obtain ⟨rfl, he⟩ := hR2
        refine m_J_eqH (H' := (Z ++ k_M th u so fz fs gt yr kk oo tt hh ww ss ll ls pl ps tp td pp en bb fa fv mt nx pL sg bo wa gv bw of o)) rfl ?_
        exact m_J_iret hM rfl rfl (by decide) (Nat.le_of_ble_eq_true rfl) (Nat.le_of_ble_eq_true rfl) (⟨rfl, kk, oo, tt, hh, ww, ss, ll, pp, bb, rfl, hR1, by rw [show y_pline tp en pt q = .inr e by simp [y_pline, h1, h2, hres]]; exact ⟨rfl, he⟩⟩)
    | false =>
      refine m_J_run hM 1 rfl ⟨trivial, trivial⟩ ?_
      refine m_J_if (fun _ => ?_) (fun hc => absurd (by decide) hc)
      refine m_J_run hM 1 rfl ⟨trivial, trivial⟩ ?_
      refine m_J_getf hM rfl rfl (kZ hZ 0 rfl) (rfl) ?_
      refine m_J_run hM 2 rfl ⟨trivial, trivial, trivial⟩ ?_
      refine m_cV0 hZ hM rfl kw_X9_162 rfl rfl rfl (y_useOf hZ hby hen (p := pt) (by omega)) k_Ml (Nat.le_of_ble_eq_true rfl) ?_
      cases hU : y_uq tp en pt with
      | none =>
        rw [k_on_n]
        refine m_iastN hM rfl (kZ hZ 5 rfl) (by omega) (by omega) ?_
        refine m_J_eqH (H' := (Z ++ k_M th u so fz fs gt yr aK (upd aO (14 + n9) (-nI 1)) aT aH aW aS aL ls pl ps tp td (y_wp tp en pt) en (k_sb tp en pt) fa fv mt nx pL sg bo wa gv bw of o)) (kZs hZ 5 (rfl)) ?_
        refine m_J_run hM 1 rfl ⟨trivial, trivial⟩ ?_
        refine m_J_getf hM rfl rfl (kZ hZ 0 rfl) (rfl) ?_
        refine m_J_run hM 1 rfl ⟨trivial, trivial⟩ ?_
        refine m_ialdN hM rfl (kZ hZ 5 rfl) (by omega) (by omega) ?_
        rw [pk_us]
        refine m_J_run hM 1 rfl ⟨trivial, trivial⟩ ?_
        refine m_J_if (fun _ => ?_) (fun hc => absurd (by decide) hc)
        refine m_J_run hM 1 rfl ⟨trivial, trivial⟩ ?_
        exact m_J_iret hM rfl rfl (by decide) (Nat.le_of_ble_eq_true rfl) (Nat.le_of_ble_eq_true rfl) (⟨rfl, _, _, _, _, _, _, _, _, _, rfl, fun j hj => by simp [upd, hj], by rw [show y_pline tp en pt q = .inr (k_sb tp en pt) by simp [y_pline, h1, h2, hU]]; exact ⟨rfl, rfl⟩⟩)
      | some v =>
        rw [k_on_s]
        have hUt := y_uq_lt hU
        refine m_iastN hM rfl (kZ hZ 5 rfl) (by omega) (by omega) ?_
        refine m_J_eqH (H' := (Z ++ k_M th u so fz fs gt yr aK (upd aO (14 + n9) (nI v)) aT aH aW aS aL ls pl ps tp td (y_wp tp en pt) en (k_sb tp en pt) fa fv mt nx pL sg bo wa gv bw of o)) (kZs hZ 5 (rfl)) ?_
        refine m_J_run hM 1 rfl ⟨trivial, trivial⟩ ?_
        refine m_J_getf hM rfl rfl (kZ hZ 0 rfl) (rfl) ?_
        refine m_J_run hM 1 rfl ⟨trivial, trivial⟩ ?_
        refine m_ialdN hM rfl (kZ hZ 5 rfl) (by omega) (by omega) ?_
        rw [pk_us]
        refine m_J_run hM 1 rfl ⟨trivial, trivial⟩ ?_
        refine m_J_if (fun hc => absurd hc (nI_pos (by omega))) (fun _ => ?_)
        refine m_J_run hM 2 rfl ⟨trivial, trivial, trivial⟩ ?_
        refine m_cVp1 hZ hM rfl kw_X9_201 rfl rfl rfl (y_readWorth hZ hby hen (v0 := v) q (by omega) (by omega) (by simp [upd])) (Nat.le_of_ble_eq_true rfl) (fun v9 h9 hp9 => ?_)
        obtain ⟨kk, oo, tt, hh, ww, ss, ll, pp, bb, rfl, hR1, hR2⟩ := hp9
        refine ⟨k_le k_Ml, ?_⟩
        cases hres : y_pworth tp en (y_wp tp en pt) v q with
        | inl x =>
          rw [hres] at hR2
          obtain ⟨rfl, hp, hl⟩ := hR2
          refine m_J_eqH (H' := (Z ++ k_M th u so fz fs gt yr kk oo tt hh ww ss ll ls pl ps tp td pp en bb fa fv mt nx pL sg bo wa gv bw of o)) rfl ?_
          refine m_J_run hM 1 rfl ⟨trivial, trivial⟩ ?_
          refine m_J_if (fun hc => absurd hc (nI_ne0 (by omega) (by omega))) (fun _ => ?_)
          refine m_J_run hM 2 rfl ⟨trivial, trivial, trivial⟩ ?_
          exact m_J_iret hM rfl rfl (by decide) (Nat.le_of_ble_eq_true rfl) (Nat.le_of_ble_eq_true rfl) (⟨rfl, kk, oo, tt, hh, ww, ss, ll, pp, bb, rfl, fun j hj => by have h9 := hR1 j hj; rw [show upd aO (14 + n9) (nI v) j = aO j by simp [upd, hj]] at h9; exact h9, by rw [show y_pline tp en pt q = .inl x by simp [y_pline, h1, h2, hU, hres]]; exact ⟨rfl, hp, hl⟩⟩)
        | inr e =>
          rw [hres] at hR2
          obtain ⟨rfl, he⟩ := hR2
          refine m_J_eqH (H' := (Z ++ k_M th u so fz fs gt yr kk oo tt hh ww ss ll ls pl ps tp td pp en bb fa fv mt nx pL sg bo wa gv bw of o)) rfl ?_
          refine m_J_run hM 1 rfl ⟨trivial, trivial⟩ ?_
          refine m_J_if (fun _ => ?_) (fun hc => absurd (by first | decide | (rw [show 0 = 0 by omega]; decide)) hc)
          refine m_J_run hM 1 rfl ⟨trivial, trivial⟩ ?_
          exact m_J_iret hM rfl rfl (by decide) (Nat.le_of_ble_eq_true rfl) (Nat.le_of_ble_eq_true rfl) (⟨rfl, kk, oo, tt, hh, ww, ss, ll, pp, bb, rfl, fun j hj => by have h9 := hR1 j hj; rw [show upd aO (14 + n9) (nI v) j = aO j by simp [upd, hj]] at h9; exact h9, by rw [show y_pline tp en pt q = .inr e by simp [y_pline, h1, h2, hU, hres]]; exact ⟨rfl, he⟩⟩)
set_option maxHeartbeats 2000000 in
set_option maxRecDepth 100000 in
theorem y_readLine14 (hZ : Z.length = 70) (hby : ∀ p, p < 400 → k_isb (tp p)) (hen : en ≤ 400) (hpt : pt ≤ en) : m_Dt l (m_EX E N xs) E mM_X9_readLine (d + 8) 0 0 [.ref 70, .int (nI 14)] (Z ++ k_M th u so fz fs gt yr aK aO aT aH aW aS aL ls pl ps tp td pt en bg fa fv mt nx pL sg bo wa gv bw of o) tg (some (.int (nI 0))) (Z ++ k_M th u so fz fs gt yr aK aO aT aH aW aS aL ls pl ps tp td (y_wp tp en pt) en (k_sb tp en pt) fa fv mt nx pL sg bo wa gv bw of o) tg := by
  have hM := mM_X9_readLine_ok
  refine m_Sp_of (by decide) (Nat.le_of_ble_eq_true rfl) ?_
  refine m_J_run hM 1 rfl ⟨trivial, trivial⟩ ?_
  refine m_cV0 hZ hM rfl kw_X9_145 rfl rfl rfl (y_word hZ hby hen (by omega)) k_Ml (Nat.le_of_ble_eq_true rfl) ?_
  refine m_J_run hM 3 rfl ⟨trivial, trivial, trivial, trivial⟩ ?_
  refine m_J_if (fun hc => absurd hc (fun q => q (congrArg nI (by omega)))) (fun _ => ?_)
  refine m_J_run hM 1 rfl ⟨trivial, trivial⟩ ?_
  exact m_iret hM rfl rfl (by decide) (Nat.le_of_ble_eq_true rfl) (Nat.le_of_ble_eq_true rfl) (rfl) (rfl)
end
