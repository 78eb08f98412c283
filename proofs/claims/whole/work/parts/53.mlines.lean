/-! THE MODEL: lines (written by wip/gen_model12.py; the words are in 52) -/
section
variable {l : Launch} {E : mE} {N : Nat} {xs : Nat → Int32} {d : Nat} {tg : Bool} {Z : mH} {h : mH}
variable {th : Int32} {u : Nat → Int32} {so : Nat → Int32} {fz : Nat → Bool} {fs : Nat} {gt : Nat} {yr : Nat} {aK : Nat → Int32} {aO : Nat → Int32} {aT : Nat → Int32} {aH : Nat → Int32} {aW : Nat → Int32} {aS : Nat → Int32} {aL : Nat → Int32} {ls : Nat} {pl : Nat → Int32} {ps : Nat} {tp : Nat → Int32} {td : Nat} {pt : Nat} {en : Nat} {bg : Nat} {fa : Int32} {fv : Nat → Int32} {mt : Nat → Bool} {nx : Nat → Int32} {pL : Nat → Nat} {sg : Nat → Int32} {bo : Nat → Int32} {wa : Nat → Int32} {gv : Nat → Int32} {bw : Int32} {of : Nat → Int32} {o : mH}
set_option maxHeartbeats 4000000 in
set_option maxRecDepth 100000 in
theorem y_rlaw7 (hZ : Z.length = 70) (hby : ∀ p, p < 400 → k_isb (tp p)) (hen : en ≤ 400) {k : Nat} (q : kL) (hk : k < 28) (hpt : pt ≤ en) {v : Nat} (hU : y_uq tp en pt = some v) (hUt : v < 5) (h1 : k_swb tp en (y_wp tp en pt) 32 = false) (h2 : k_swb tp en (y_wp tp en pt) 33 = true) {w : Nat} (hV : y_uq tp en (y_wp tp en (y_wp tp en pt)) = some w) (hVt : w < 5) : m_J l (m_EX E N xs) E mM_X9_readLaw (d + 7) 0 0 (fun v H tg' => tg' = tg ∧ (∃ (kk oo tt hh ww ss ll : Nat → Int32) (pp bb : Nat), H = (Z ++ k_M th u so fz fs gt yr kk oo tt hh ww ss ll ls pl ps tp td pp en bb fa fv mt nx pL sg bo wa gv bw of o) ∧ y_RP aK aO aT aH aW aS aL k (y_plaw tp en pt q) v kk oo tt hh ww ss ll pp bb)) m_no tg 0 0 (80, [some (.ref 70), some (.int (nI k))], [], (Z ++ k_M th u so fz fs gt yr (upd aK k (nI 2)) (upd aO k (nI v)) (upd aT k (nI w)) aH aW aS aL ls pl ps tp td (y_wp tp en (y_wp tp en (y_wp tp en pt))) en (k_sb tp en (y_wp tp en (y_wp tp en pt))) fa fv mt nx pL sg bo wa gv bw of o)) := by
  have hM := mM_X9_readLaw_ok
  have hw4 := y_wp_le (g := tp) (n := en) (p := pt) (by omega)
  have hw5 := y_wp_le (g := tp) (n := en) (p := (y_wp tp en pt)) (by omega)
  have hw6 := y_wp_le (g := tp) (n := en) (p := (y_wp tp en (y_wp tp en pt))) (by omega)
  refine m_J_run hM 1 rfl ⟨trivial, trivial⟩ ?_
  refine m_J_getf hM rfl rfl (kZ hZ 0 rfl) (rfl) ?_
  refine m_J_run hM 4 rfl ⟨trivial, trivial, trivial, trivial, trivial⟩ ?_
  refine m_cV2 hZ hM rfl kw_X9_167 rfl rfl rfl (y_number hZ hby hen (by omega) (by omega) (by omega)) k_Ml (Nat.le_of_ble_eq_true rfl) ?_
  have hw11 := y_np_le (g := tp) (n := en) (p := (y_wp tp en (y_wp tp en (y_wp tp en pt)))) (by omega)
  cases hN : y_num tp en (y_wp tp en (y_wp tp en (y_wp tp en pt))) 1 5 with
  | none =>
    rw [k_on_n]
    refine m_iastN hM rfl (kZ hZ 9 rfl) (by omega) (by omega) ?_
    refine m_J_eqH (H' := (Z ++ k_M th u so fz fs gt yr (upd aK k (nI 2)) (upd aO k (nI v)) (upd aT k (nI w)) aH aW (upd aS k (-nI 1)) aL ls pl ps tp td (y_np tp en (y_wp tp en (y_wp tp en (y_wp tp en pt)))) en (k_sb tp en (y_wp tp en (y_wp tp en (y_wp tp en pt)))) fa fv mt nx pL sg bo wa gv bw of o)) (kZs hZ 9 (rfl)) ?_
    refine m_J_run hM 1 rfl ⟨trivial, trivial⟩ ?_
    refine m_J_getf hM rfl rfl (kZ hZ 0 rfl) (rfl) ?_
    refine m_J_run hM 1 rfl ⟨trivial, trivial⟩ ?_
    refine m_ialdN hM rfl (kZ hZ 9 rfl) (by omega) (by omega) ?_
    rw [pk_us]
    refine m_J_run hM 1 rfl ⟨trivial, trivial⟩ ?_
    refine m_J_if (fun _ => ?_) (fun hc => absurd (by decide) hc)
    refine m_J_run hM 1 rfl ⟨trivial, trivial⟩ ?_
    exact m_J_iret hM rfl rfl (by decide) (Nat.le_of_ble_eq_true rfl) (Nat.le_of_ble_eq_true rfl) (⟨rfl, _, _, _, _, _, _, _, _, _, rfl, fun j hj => by simp [upd, hj], by rw [show y_plaw tp en pt q = .inr (k_sb tp en (y_wp tp en (y_wp tp en (y_wp tp en pt)))) by simp [y_plaw, hU, h1, h2, hV, hN]]; exact ⟨rfl, rfl⟩⟩)
  | some m =>
    rw [k_on_s]
    have hNt := y_num_b (by omega) (by omega) hN
    refine m_iastN hM rfl (kZ hZ 9 rfl) (by omega) (by omega) ?_
    refine m_J_eqH (H' := (Z ++ k_M th u so fz fs gt yr (upd aK k (nI 2)) (upd aO k (nI v)) (upd aT k (nI w)) aH aW (upd aS k (nI m)) aL ls pl ps tp td (y_np tp en (y_wp tp en (y_wp tp en (y_wp tp en pt)))) en (k_sb tp en (y_wp tp en (y_wp tp en (y_wp tp en pt)))) fa fv mt nx pL sg bo wa gv bw of o)) (kZs hZ 9 (rfl)) ?_
    refine m_J_run hM 1 rfl ⟨trivial, trivial⟩ ?_
    refine m_J_getf hM rfl rfl (kZ hZ 0 rfl) (rfl) ?_
    refine m_J_run hM 1 rfl ⟨trivial, trivial⟩ ?_
    refine m_ialdN hM rfl (kZ hZ 9 rfl) (by omega) (by omega) ?_
    rw [pk_us]
    refine m_J_run hM 1 rfl ⟨trivial, trivial⟩ ?_
    refine m_J_if (fun hc => absurd hc (nI_pos (by omega))) (fun _ => ?_)
    refine m_J_run hM 2 rfl ⟨trivial, trivial, trivial⟩ ?_
    exact m_J_iret hM rfl rfl (by decide) (Nat.le_of_ble_eq_true rfl) (Nat.le_of_ble_eq_true rfl) (⟨rfl, _, _, _, _, _, _, _, _, _, rfl, fun j hj => by simp [upd, hj], by rw [show y_plaw tp en pt q = .inl (y_np tp en (y_wp tp en (y_wp tp en (y_wp tp en pt))), (2, v, w, q.2.2.2.1, m, q.2.2.2.2.2)) by simp [y_plaw, hU, h1, h2, hV, hN]]; exact ⟨rfl, rfl, by simp [y_LR, upd]⟩⟩)
set_option maxHeartbeats 4000000 in
set_option maxRecDepth 100000 in
theorem y_rlaw6 (hZ : Z.length = 70) (hby : ∀ p, p < 400 → k_isb (tp p)) (hen : en ≤ 400) {k : Nat} (q : kL) (hk : k < 28) (hpt : pt ≤ en) {v : Nat} (hU : y_uq tp en pt = some v) (hUt : v < 5) (h1 : k_swb tp en (y_wp tp en pt) 32 = false) (h2 : k_swb tp en (y_wp tp en pt) 33 = true) : m_J l (m_EX E N xs) E mM_X9_readLaw (d + 7) 0 0 (fun v H tg' => tg' = tg ∧ (∃ (kk oo tt hh ww ss ll : Nat → Int32) (pp bb : Nat), H = (Z ++ k_M th u so fz fs gt yr kk oo tt hh ww ss ll ls pl ps tp td pp en bb fa fv mt nx pL sg bo wa gv bw of o) ∧ y_RP aK aO aT aH aW aS aL k (y_plaw tp en pt q) v kk oo tt hh ww ss ll pp bb)) m_no tg 0 0 (52, [some (.ref 70), some (.int (nI k))], [], (Z ++ k_M th u so fz fs gt yr aK (upd aO k (nI v)) aT aH aW aS aL ls pl ps tp td (y_wp tp en (y_wp tp en pt)) en (k_sb tp en (y_wp tp en pt)) fa fv mt nx pL sg bo wa gv bw of o)) := by
  have hM := mM_X9_readLaw_ok
  have hw4 := y_wp_le (g := tp) (n := en) (p := pt) (by omega)
  have hw5 := y_wp_le (g := tp) (n := en) (p := (y_wp tp en pt)) (by omega)
  refine m_J_run hM 1 rfl ⟨trivial, trivial⟩ ?_
  refine m_J_getf hM rfl rfl (kZ hZ 0 rfl) (rfl) ?_
  refine m_J_run hM 2 rfl ⟨trivial, trivial, trivial⟩ ?_
  refine m_iastN hM rfl (kZ hZ 4 rfl) (by omega) (by omega) ?_
  refine m_J_eqH (H' := (Z ++ k_M th u so fz fs gt yr (upd aK k (nI 2)) (upd aO k (nI v)) aT aH aW aS aL ls pl ps tp td (y_wp tp en (y_wp tp en pt)) en (k_sb tp en (y_wp tp en pt)) fa fv mt nx pL sg bo wa gv bw of o)) (kZs hZ 4 (rfl)) ?_
  refine m_J_run hM 1 rfl ⟨trivial, trivial⟩ ?_
  refine m_J_getf hM rfl rfl (kZ hZ 0 rfl) (rfl) ?_
  refine m_J_run hM 2 rfl ⟨trivial, trivial, trivial⟩ ?_
  refine m_cV0 hZ hM rfl kw_X9_172 rfl rfl rfl (y_readUse hZ hby hen (by omega)) k_Ml (Nat.le_of_ble_eq_true rfl) ?_
  have hw15 := y_wp_le (g := tp) (n := en) (p := (y_wp tp en (y_wp tp en pt))) (by omega)
  cases hV : y_uq tp en (y_wp tp en (y_wp tp en pt)) with
  | none =>
    rw [k_on_n]
    refine m_iastN hM rfl (kZ hZ 6 rfl) (by omega) (by omega) ?_
    refine m_J_eqH (H' := (Z ++ k_M th u so fz fs gt yr (upd aK k (nI 2)) (upd aO k (nI v)) (upd aT k (-nI 1)) aH aW aS aL ls pl ps tp td (y_wp tp en (y_wp tp en (y_wp tp en pt))) en (k_sb tp en (y_wp tp en (y_wp tp en pt))) fa fv mt nx pL sg bo wa gv bw of o)) (kZs hZ 6 (rfl)) ?_
    refine m_J_run hM 1 rfl ⟨trivial, trivial⟩ ?_
    refine m_J_getf hM rfl rfl (kZ hZ 0 rfl) (rfl) ?_
    refine m_J_run hM 1 rfl ⟨trivial, trivial⟩ ?_
    refine m_ialdN hM rfl (kZ hZ 6 rfl) (by omega) (by omega) ?_
    rw [pk_us]
    refine m_J_run hM 1 rfl ⟨trivial, trivial⟩ ?_
    refine m_J_if (fun hc => absurd hc (by decide)) (fun _ => ?_)
    refine m_J_run hM 1 rfl ⟨trivial, trivial⟩ ?_
    exact m_J_iret hM rfl rfl (by decide) (Nat.le_of_ble_eq_true rfl) (Nat.le_of_ble_eq_true rfl) (⟨rfl, _, _, _, _, _, _, _, _, _, rfl, fun j hj => by simp [upd, hj], by rw [show y_plaw tp en pt q = .inr (k_sb tp en (y_wp tp en (y_wp tp en pt))) by simp [y_plaw, hU, h1, h2, hV]]; exact ⟨rfl, rfl⟩⟩)
  | some w =>
    rw [k_on_s]
    have hVt := y_uq_lt hV
    refine m_iastN hM rfl (kZ hZ 6 rfl) (by omega) (by omega) ?_
    refine m_J_eqH (H' := (Z ++ k_M th u so fz fs gt yr (upd aK k (nI 2)) (upd aO k (nI v)) (upd aT k (nI w)) aH aW aS aL ls pl ps tp td (y_wp tp en (y_wp tp en (y_wp tp en pt))) en (k_sb tp en (y_wp tp en (y_wp tp en pt))) fa fv mt nx pL sg bo wa gv bw of o)) (kZs hZ 6 (rfl)) ?_
    refine m_J_run hM 1 rfl ⟨trivial, trivial⟩ ?_
    refine m_J_getf hM rfl rfl (kZ hZ 0 rfl) (rfl) ?_
    refine m_J_run hM 1 rfl ⟨trivial, trivial⟩ ?_
    refine m_ialdN hM rfl (kZ hZ 6 rfl) (by omega) (by omega) ?_
    rw [pk_us]
    refine m_J_run hM 1 rfl ⟨trivial, trivial⟩ ?_
    refine m_J_if (fun _ => ?_) (fun hc => absurd (nI_pos' (by omega)) hc)
    exact y_rlaw7 hZ hby hen q hk hpt hU hUt h1 h2 hV hVt
set_option maxHeartbeats 4000000 in
set_option maxRecDepth 100000 in
theorem y_rlaw5 (hZ : Z.length = 70) (hby : ∀ p, p < 400 → k_isb (tp p)) (hen : en ≤ 400) {k : Nat} (q : kL) (hk : k < 28) (hpt : pt ≤ en) {v : Nat} (hU : y_uq tp en pt = some v) (hUt : v < 5) (h1 : k_swb tp en (y_wp tp en pt) 32 = false) (h2 : k_swb tp en (y_wp tp en pt) 33 = false) (h3 : k_swb tp en (y_wp tp en pt) 34 = true) : m_J l (m_EX E N xs) E mM_X9_readLaw (d + 7) 0 0 (fun v H tg' => tg' = tg ∧ (∃ (kk oo tt hh ww ss ll : Nat → Int32) (pp bb : Nat), H = (Z ++ k_M th u so fz fs gt yr kk oo tt hh ww ss ll ls pl ps tp td pp en bb fa fv mt nx pL sg bo wa gv bw of o) ∧ y_RP aK aO aT aH aW aS aL k (y_plaw tp en pt q) v kk oo tt hh ww ss ll pp bb)) m_no tg 0 0 (147, [some (.ref 70), some (.int (nI k))], [], (Z ++ k_M th u so fz fs gt yr (upd aK k (nI 3)) (upd aO k (nI v)) aT aH aW aS aL ls pl ps tp td (y_wp tp en (y_wp tp en pt)) en (k_sb tp en (y_wp tp en pt)) fa fv mt nx pL sg bo wa gv bw of o)) := by
  have hM := mM_X9_readLaw_ok
  have hw4 := y_wp_le (g := tp) (n := en) (p := pt) (by omega)
  have hw5 := y_wp_le (g := tp) (n := en) (p := (y_wp tp en pt)) (by omega)
  refine m_J_run hM 1 rfl ⟨trivial, trivial⟩ ?_
  refine m_J_getf hM rfl rfl (kZ hZ 0 rfl) (rfl) ?_
  refine m_J_run hM 4 rfl ⟨trivial, trivial, trivial, trivial, trivial⟩ ?_
  refine m_cV2 hZ hM rfl kw_X9_167 rfl rfl rfl (y_number hZ hby hen (by omega) (by omega) (by omega)) k_Ml (Nat.le_of_ble_eq_true rfl) ?_
  have hw10 := y_np_le (g := tp) (n := en) (p := (y_wp tp en (y_wp tp en pt))) (by omega)
  cases hN : y_num tp en (y_wp tp en (y_wp tp en pt)) 0 99 with
  | none =>
    rw [k_on_n]
    refine m_iastN hM rfl (kZ hZ 10 rfl) (by omega) (by omega) ?_
    refine m_J_eqH (H' := (Z ++ k_M th u so fz fs gt yr (upd aK k (nI 3)) (upd aO k (nI v)) aT aH aW aS (upd aL k (-nI 1)) ls pl ps tp td (y_np tp en (y_wp tp en (y_wp tp en pt))) en (k_sb tp en (y_wp tp en (y_wp tp en pt))) fa fv mt nx pL sg bo wa gv bw of o)) (kZs hZ 10 (rfl)) ?_
    refine m_J_run hM 1 rfl ⟨trivial, trivial⟩ ?_
    refine m_J_getf hM rfl rfl (kZ hZ 0 rfl) (rfl) ?_
    refine m_J_run hM 1 rfl ⟨trivial, trivial⟩ ?_
    refine m_ialdN hM rfl (kZ hZ 10 rfl) (by omega) (by omega) ?_
    rw [pk_us]
    refine m_J_run hM 1 rfl ⟨trivial, trivial⟩ ?_
    refine m_J_if (fun _ => ?_) (fun hc => absurd (by decide) hc)
    refine m_J_run hM 1 rfl ⟨trivial, trivial⟩ ?_
    exact m_J_iret hM rfl rfl (by decide) (Nat.le_of_ble_eq_true rfl) (Nat.le_of_ble_eq_true rfl) (⟨rfl, _, _, _, _, _, _, _, _, _, rfl, fun j hj => by simp [upd, hj], by rw [show y_plaw tp en pt q = .inr (k_sb tp en (y_wp tp en (y_wp tp en pt))) by simp [y_plaw, hU, h1, h2, h3, hN]]; exact ⟨rfl, rfl⟩⟩)
  | some m =>
    rw [k_on_s]
    have hNt := y_num_b (by omega) (by omega) hN
    refine m_iastN hM rfl (kZ hZ 10 rfl) (by omega) (by omega) ?_
    refine m_J_eqH (H' := (Z ++ k_M th u so fz fs gt yr (upd aK k (nI 3)) (upd aO k (nI v)) aT aH aW aS (upd aL k (nI m)) ls pl ps tp td (y_np tp en (y_wp tp en (y_wp tp en pt))) en (k_sb tp en (y_wp tp en (y_wp tp en pt))) fa fv mt nx pL sg bo wa gv bw of o)) (kZs hZ 10 (rfl)) ?_
    refine m_J_run hM 1 rfl ⟨trivial, trivial⟩ ?_
    refine m_J_getf hM rfl rfl (kZ hZ 0 rfl) (rfl) ?_
    refine m_J_run hM 1 rfl ⟨trivial, trivial⟩ ?_
    refine m_ialdN hM rfl (kZ hZ 10 rfl) (by omega) (by omega) ?_
    rw [pk_us]
    refine m_J_run hM 1 rfl ⟨trivial, trivial⟩ ?_
    refine m_J_if (fun hc => absurd hc (nI_pos (by omega))) (fun _ => ?_)
    refine m_J_run hM 2 rfl ⟨trivial, trivial, trivial⟩ ?_
    exact m_J_iret hM rfl rfl (by decide) (Nat.le_of_ble_eq_true rfl) (Nat.le_of_ble_eq_true rfl) (⟨rfl, _, _, _, _, _, _, _, _, _, rfl, fun j hj => by simp [upd, hj], by rw [show y_plaw tp en pt q = .inl (y_np tp en (y_wp tp en (y_wp tp en pt)), (3, v, q.2.2.1, q.2.2.2.1, q.2.2.2.2.1, q.2.2.2.2.2.1, nI m)) by simp [y_plaw, hU, h1, h2, h3, hN]]; exact ⟨rfl, rfl, by simp [y_LR, upd]⟩⟩)
set_option maxHeartbeats 4000000 in
set_option maxRecDepth 100000 in
theorem y_rlaw4 (hZ : Z.length = 70) (hby : ∀ p, p < 400 → k_isb (tp p)) (hen : en ≤ 400) {k : Nat} (q : kL) (hk : k < 28) (hpt : pt ≤ en) {v : Nat} (hU : y_uq tp en pt = some v) (hUt : v < 5) (h1 : k_swb tp en (y_wp tp en pt) 32 = false) (h2 : k_swb tp en (y_wp tp en pt) 33 = false) (h3 : k_swb tp en (y_wp tp en pt) 34 = false) (h4 : k_swb tp en (y_wp tp en pt) 35 = true) : m_J l (m_EX E N xs) E mM_X9_readLaw (d + 7) 0 0 (fun v H tg' => tg' = tg ∧ (∃ (kk oo tt hh ww ss ll : Nat → Int32) (pp bb : Nat), H = (Z ++ k_M th u so fz fs gt yr kk oo tt hh ww ss ll ls pl ps tp td pp en bb fa fv mt nx pL sg bo wa gv bw of o) ∧ y_RP aK aO aT aH aW aS aL k (y_plaw tp en pt q) v kk oo tt hh ww ss ll pp bb)) m_no tg 0 0 (147, [some (.ref 70), some (.int (nI k))], [], (Z ++ k_M th u so fz fs gt yr (upd aK k (nI 4)) (upd aO k (nI v)) aT aH aW aS aL ls pl ps tp td (y_wp tp en (y_wp tp en pt)) en (k_sb tp en (y_wp tp en pt)) fa fv mt nx pL sg bo wa gv bw of o)) := by
  have hM := mM_X9_readLaw_ok
  have hw4 := y_wp_le (g := tp) (n := en) (p := pt) (by omega)
  have hw5 := y_wp_le (g := tp) (n := en) (p := (y_wp tp en pt)) (by omega)
  refine m_J_run hM 1 rfl ⟨trivial, trivial⟩ ?_
  refine m_J_getf hM rfl rfl (kZ hZ 0 rfl) (rfl) ?_
  refine m_J_run hM 4 rfl ⟨trivial, trivial, trivial, trivial, trivial⟩ ?_
  refine m_cV2 hZ hM rfl kw_X9_167 rfl rfl rfl (y_number hZ hby hen (by omega) (by omega) (by omega)) k_Ml (Nat.le_of_ble_eq_true rfl) ?_
  have hw10 := y_np_le (g := tp) (n := en) (p := (y_wp tp en (y_wp tp en pt))) (by omega)
  cases hN : y_num tp en (y_wp tp en (y_wp tp en pt)) 0 99 with
  | none =>
    rw [k_on_n]
    refine m_iastN hM rfl (kZ hZ 10 rfl) (by omega) (by omega) ?_
    refine m_J_eqH (H' := (Z ++ k_M th u so fz fs gt yr (upd aK k (nI 4)) (upd aO k (nI v)) aT aH aW aS (upd aL k (-nI 1)) ls pl ps tp td (y_np tp en (y_wp tp en (y_wp tp en pt))) en (k_sb tp en (y_wp tp en (y_wp tp en pt))) fa fv mt nx pL sg bo wa gv bw of o)) (kZs hZ 10 (rfl)) ?_
    refine m_J_run hM 1 rfl ⟨trivial, trivial⟩ ?_
    refine m_J_getf hM rfl rfl (kZ hZ 0 rfl) (rfl) ?_
    refine m_J_run hM 1 rfl ⟨trivial, trivial⟩ ?_
    refine m_ialdN hM rfl (kZ hZ 10 rfl) (by omega) (by omega) ?_
    rw [pk_us]
    refine m_J_run hM 1 rfl ⟨trivial, trivial⟩ ?_
    refine m_J_if (fun _ => ?_) (fun hc => absurd (by decide) hc)
    refine m_J_run hM 1 rfl ⟨trivial, trivial⟩ ?_
    exact m_J_iret hM rfl rfl (by decide) (Nat.le_of_ble_eq_true rfl) (Nat.le_of_ble_eq_true rfl) (⟨rfl, _, _, _, _, _, _, _, _, _, rfl, fun j hj => by simp [upd, hj], by rw [show y_plaw tp en pt q = .inr (k_sb tp en (y_wp tp en (y_wp tp en pt))) by simp [y_plaw, hU, h1, h2, h3, h4, hN]]; exact ⟨rfl, rfl⟩⟩)
  | some m =>
    rw [k_on_s]
    have hNt := y_num_b (by omega) (by omega) hN
    refine m_iastN hM rfl (kZ hZ 10 rfl) (by omega) (by omega) ?_
    refine m_J_eqH (H' := (Z ++ k_M th u so fz fs gt yr (upd aK k (nI 4)) (upd aO k (nI v)) aT aH aW aS (upd aL k (nI m)) ls pl ps tp td (y_np tp en (y_wp tp en (y_wp tp en pt))) en (k_sb tp en (y_wp tp en (y_wp tp en pt))) fa fv mt nx pL sg bo wa gv bw of o)) (kZs hZ 10 (rfl)) ?_
    refine m_J_run hM 1 rfl ⟨trivial, trivial⟩ ?_
    refine m_J_getf hM rfl rfl (kZ hZ 0 rfl) (rfl) ?_
    refine m_J_run hM 1 rfl ⟨trivial, trivial⟩ ?_
    refine m_ialdN hM rfl (kZ hZ 10 rfl) (by omega) (by omega) ?_
    rw [pk_us]
    refine m_J_run hM 1 rfl ⟨trivial, trivial⟩ ?_
    refine m_J_if (fun hc => absurd hc (nI_pos (by omega))) (fun _ => ?_)
    refine m_J_run hM 2 rfl ⟨trivial, trivial, trivial⟩ ?_
    exact m_J_iret hM rfl rfl (by decide) (Nat.le_of_ble_eq_true rfl) (Nat.le_of_ble_eq_true rfl) (⟨rfl, _, _, _, _, _, _, _, _, _, rfl, fun j hj => by simp [upd, hj], by rw [show y_plaw tp en pt q = .inl (y_np tp en (y_wp tp en (y_wp tp en pt)), (4, v, q.2.2.1, q.2.2.2.1, q.2.2.2.2.1, q.2.2.2.2.2.1, nI m)) by simp [y_plaw, hU, h1, h2, h3, h4, hN]]; exact ⟨rfl, rfl, by simp [y_LR, upd]⟩⟩)
set_option maxHeartbeats 4000000 in
set_option maxRecDepth 100000 in
theorem y_rlaw3 (hZ : Z.length = 70) (hby : ∀ p, p < 400 → k_isb (tp p)) (hen : en ≤ 400) {k : Nat} (q : kL) (hk : k < 28) (hpt : pt ≤ en) {v : Nat} (hU : y_uq tp en pt = some v) (hUt : v < 5) (h1 : k_swb tp en (y_wp tp en pt) 32 = false) (h2 : k_swb tp en (y_wp tp en pt) 33 = false) : m_J l (m_EX E N xs) E mM_X9_readLaw (d + 7) 0 0 (fun v H tg' => tg' = tg ∧ (∃ (kk oo tt hh ww ss ll : Nat → Int32) (pp bb : Nat), H = (Z ++ k_M th u so fz fs gt yr kk oo tt hh ww ss ll ls pl ps tp td pp en bb fa fv mt nx pL sg bo wa gv bw of o) ∧ y_RP aK aO aT aH aW aS aL k (y_plaw tp en pt q) v kk oo tt hh ww ss ll pp bb)) m_no tg 0 0 (107, [some (.ref 70), some (.int (nI k))], [], (Z ++ k_M th u so fz fs gt yr aK (upd aO k (nI v)) aT aH aW aS aL ls pl ps tp td (y_wp tp en (y_wp tp en pt)) en (k_sb tp en (y_wp tp en pt)) fa fv mt nx pL sg bo wa gv bw of o)) := by
  have hM := mM_X9_readLaw_ok
  have hw4 := y_wp_le (g := tp) (n := en) (p := pt) (by omega)
  have hw5 := y_wp_le (g := tp) (n := en) (p := (y_wp tp en pt)) (by omega)
  refine m_J_run hM 1 rfl ⟨trivial, trivial⟩ ?_
  refine m_J_getf hM rfl rfl (kZ hZ 0 rfl) (rfl) ?_
  refine m_J_run hM 2 rfl ⟨trivial, trivial, trivial⟩ ?_
  refine m_J_ldcS (si := 34) hM rfl rfl ?_
  refine m_cV1 hZ hM rfl kw_X9_148 rfl rfl rfl (y_isWord hZ hby hen (b0 := (k_sb tp en (y_wp tp en pt))) (r := k_rl tp en 97 122 (k_sb tp en (y_wp tp en pt))) (si := 34) (by omega) (k_rl_le (by omega) (k_sb_le (by omega)).2)) k_Ml (Nat.le_of_ble_eq_true rfl) ?_
  refine m_J_eqH (H' := (Z ++ k_M th u so fz fs gt yr aK (upd aO k (nI v)) aT aH aW aS aL ls pl ps tp td (y_wp tp en (y_wp tp en pt)) en (k_sb tp en (y_wp tp en pt)) fa fv mt nx pL sg bo wa gv bw of o)) rfl ?_
  show m_J _ _ _ _ _ _ _ _ _ _ _ _ (_, _, Value.int (k_z (k_swb tp en (y_wp tp en pt) 34)) :: _, _)
  cases h3 : k_swb tp en (y_wp tp en pt) 34 with
  | false =>
    refine m_J_run hM 1 rfl ⟨trivial, trivial⟩ ?_
    refine m_J_if (fun _ => ?_) (fun hc => absurd (by decide) hc)
    refine m_J_run hM 1 rfl ⟨trivial, trivial⟩ ?_
    refine m_iastN hM rfl (kZ hZ 4 rfl) (by omega) (by omega) ?_
    refine m_J_eqH (H' := (Z ++ k_M th u so fz fs gt yr (upd aK k (nI 4)) (upd aO k (nI v)) aT aH aW aS aL ls pl ps tp td (y_wp tp en (y_wp tp en pt)) en (k_sb tp en (y_wp tp en pt)) fa fv mt nx pL sg bo wa gv bw of o)) (kZs hZ 4 (rfl)) ?_
    refine m_J_run hM 1 rfl ⟨trivial, trivial⟩ ?_
    refine m_J_ldcS (si := 34) hM rfl rfl ?_
    refine m_cV1 hZ hM rfl kw_X9_148 rfl rfl rfl (y_isWord hZ hby hen (b0 := (k_sb tp en (y_wp tp en pt))) (r := k_rl tp en 97 122 (k_sb tp en (y_wp tp en pt))) (si := 34) (by omega) (k_rl_le (by omega) (k_sb_le (by omega)).2)) k_Ml (Nat.le_of_ble_eq_true rfl) ?_
    refine m_J_eqH (H' := (Z ++ k_M th u so fz fs gt yr (upd aK k (nI 4)) (upd aO k (nI v)) aT aH aW aS aL ls pl ps tp td (y_wp tp en (y_wp tp en pt)) en (k_sb tp en (y_wp tp en pt)) fa fv mt nx pL sg bo wa gv bw of o)) rfl ?_
    show m_J _ _ _ _ _ _ _ _ _ _ _ _ (_, _, Value.int (k_z (k_swb tp en (y_wp tp en pt) 34)) :: _, _)
    rw [h3]
    refine m_J_run hM 1 rfl ⟨trivial, trivial⟩ ?_
    refine m_J_if (fun hc => absurd hc (by decide)) (fun _ => ?_)
    refine m_J_run hM 1 rfl ⟨trivial, trivial⟩ ?_
    refine m_J_ldcS (si := 35) hM rfl rfl ?_
    refine m_cV1 hZ hM rfl kw_X9_148 rfl rfl rfl (y_isWord hZ hby hen (b0 := (k_sb tp en (y_wp tp en pt))) (r := k_rl tp en 97 122 (k_sb tp en (y_wp tp en pt))) (si := 35) (by omega) (k_rl_le (by omega) (k_sb_le (by omega)).2)) k_Ml (Nat.le_of_ble_eq_true rfl) ?_
    refine m_J_eqH (H' := (Z ++ k_M th u so fz fs gt yr (upd aK k (nI 4)) (upd aO k (nI v)) aT aH aW aS aL ls pl ps tp td (y_wp tp en (y_wp tp en pt)) en (k_sb tp en (y_wp tp en pt)) fa fv mt nx pL sg bo wa gv bw of o)) rfl ?_
    show m_J _ _ _ _ _ _ _ _ _ _ _ _ (_, _, Value.int (k_z (k_swb tp en (y_wp tp en pt) 35)) :: _, _)
    cases h4 : k_swb tp en (y_wp tp en pt) 35 with
    | false =>
      refine m_J_run hM 1 rfl ⟨trivial, trivial⟩ ?_
      refine m_J_if (fun hc => absurd hc (by decide)) (fun _ => ?_)
      refine m_J_run hM 1 rfl ⟨trivial, trivial⟩ ?_
      exact m_J_iret hM rfl rfl (by decide) (Nat.le_of_ble_eq_true rfl) (Nat.le_of_ble_eq_true rfl) (⟨rfl, _, _, _, _, _, _, _, _, _, rfl, fun j hj => by simp [upd, hj], by rw [show y_plaw tp en pt q = .inr (k_sb tp en (y_wp tp en pt)) by simp [y_plaw, hU, h1, h2, h3, h4]]; exact ⟨rfl, rfl⟩⟩)
    | true =>
      refine m_J_run hM 1 rfl ⟨trivial, trivial⟩ ?_
      refine m_J_if (fun _ => ?_) (fun hc => absurd (by decide) hc)
      exact y_rlaw4 hZ hby hen q hk hpt hU hUt h1 h2 h3 h4
  | true =>
    refine m_J_run hM 1 rfl ⟨trivial, trivial⟩ ?_
    refine m_J_if (fun hc => absurd hc (by decide)) (fun _ => ?_)
    refine m_J_run hM 2 rfl ⟨trivial, trivial, trivial⟩ ?_
    refine m_iastN hM rfl (kZ hZ 4 rfl) (by omega) (by omega) ?_
    refine m_J_eqH (H' := (Z ++ k_M th u so fz fs gt yr (upd aK k (nI 3)) (upd aO k (nI v)) aT aH aW aS aL ls pl ps tp td (y_wp tp en (y_wp tp en pt)) en (k_sb tp en (y_wp tp en pt)) fa fv mt nx pL sg bo wa gv bw of o)) (kZs hZ 4 (rfl)) ?_
    refine m_J_run hM 1 rfl ⟨trivial, trivial⟩ ?_
    refine m_J_ldcS (si := 34) hM rfl rfl ?_
    refine m_cV1 hZ hM rfl kw_X9_148 rfl rfl rfl (y_isWord hZ hby hen (b0 := (k_sb tp en (y_wp tp en pt))) (r := k_rl tp en 97 122 (k_sb tp en (y_wp tp en pt))) (si := 34) (by omega) (k_rl_le (by omega) (k_sb_le (by omega)).2)) k_Ml (Nat.le_of_ble_eq_true rfl) ?_
    refine m_J_eqH (H' := (Z ++ k_M th u so fz fs gt yr (upd aK k (nI 3)) (upd aO k (nI v)) aT aH aW aS aL ls pl ps tp td (y_wp tp en (y_wp tp en pt)) en (k_sb tp en (y_wp tp en pt)) fa fv mt nx pL sg bo wa gv bw of o)) rfl ?_
    show m_J _ _ _ _ _ _ _ _ _ _ _ _ (_, _, Value.int (k_z (k_swb tp en (y_wp tp en pt) 34)) :: _, _)
    rw [h3]
    refine m_J_run hM 1 rfl ⟨trivial, trivial⟩ ?_
    refine m_J_if (fun _ => ?_) (fun hc => absurd (by decide) hc)
    exact y_rlaw5 hZ hby hen q hk hpt hU hUt h1 h2 h3
set_option maxHeartbeats 4000000 in
set_option maxRecDepth 100000 in
theorem y_rlaw2 (hZ : Z.length = 70) (hby : ∀ p, p < 400 → k_isb (tp p)) (hen : en ≤ 400) {k : Nat} (q : kL) (hk : k < 28) (hpt : pt ≤ en) {v : Nat} (hU : y_uq tp en pt = some v) (hUt : v < 5) (h1 : k_swb tp en (y_wp tp en pt) 32 = false) : m_J l (m_EX E N xs) E mM_X9_readLaw (d + 7) 0 0 (fun v H tg' => tg' = tg ∧ (∃ (kk oo tt hh ww ss ll : Nat → Int32) (pp bb : Nat), H = (Z ++ k_M th u so fz fs gt yr kk oo tt hh ww ss ll ls pl ps tp td pp en bb fa fv mt nx pL sg bo wa gv bw of o) ∧ y_RP aK aO aT aH aW aS aL k (y_plaw tp en pt q) v kk oo tt hh ww ss ll pp bb)) m_no tg 0 0 (43, [some (.ref 70), some (.int (nI k))], [], (Z ++ k_M th u so fz fs gt yr aK (upd aO k (nI v)) aT aH aW aS aL ls pl ps tp td (y_wp tp en (y_wp tp en pt)) en (k_sb tp en (y_wp tp en pt)) fa fv mt nx pL sg bo wa gv bw of o)) := by
  have hM := mM_X9_readLaw_ok
  have hw4 := y_wp_le (g := tp) (n := en) (p := pt) (by omega)
  have hw5 := y_wp_le (g := tp) (n := en) (p := (y_wp tp en pt)) (by omega)
  refine m_J_run hM 1 rfl ⟨trivial, trivial⟩ ?_
  refine m_J_ldcS (si := 33) hM rfl rfl ?_
  refine m_cV1 hZ hM rfl kw_X9_148 rfl rfl rfl (y_isWord hZ hby hen (b0 := (k_sb tp en (y_wp tp en pt))) (r := k_rl tp en 97 122 (k_sb tp en (y_wp tp en pt))) (si := 33) (by omega) (k_rl_le (by omega) (k_sb_le (by omega)).2)) k_Ml (Nat.le_of_ble_eq_true rfl) ?_
  refine m_J_eqH (H' := (Z ++ k_M th u so fz fs gt yr aK (upd aO k (nI v)) aT aH aW aS aL ls pl ps tp td (y_wp tp en (y_wp tp en pt)) en (k_sb tp en (y_wp tp en pt)) fa fv mt nx pL sg bo wa gv bw of o)) rfl ?_
  show m_J _ _ _ _ _ _ _ _ _ _ _ _ (_, _, Value.int (k_z (k_swb tp en (y_wp tp en pt) 33)) :: _, _)
  cases h2 : k_swb tp en (y_wp tp en pt) 33 with
  | false =>
    refine m_J_run hM 1 rfl ⟨trivial, trivial⟩ ?_
    refine m_J_if (fun _ => ?_) (fun hc => absurd (by decide) hc)
    exact y_rlaw3 hZ hby hen q hk hpt hU hUt h1 h2
  | true =>
    refine m_J_run hM 1 rfl ⟨trivial, trivial⟩ ?_
    refine m_J_if (fun hc => absurd hc (by decide)) (fun _ => ?_)
    exact y_rlaw6 hZ hby hen q hk hpt hU hUt h1 h2
set_option maxHeartbeats 4000000 in
set_option maxRecDepth 100000 in
theorem y_rlaw1 (hZ : Z.length = 70) (hby : ∀ p, p < 400 → k_isb (tp p)) (hen : en ≤ 400) {k : Nat} (q : kL) (hk : k < 28) (hpt : pt ≤ en) {v : Nat} (hU : y_uq tp en pt = some v) (hUt : v < 5) : m_J l (m_EX E N xs) E mM_X9_readLaw (d + 7) 0 0 (fun v H tg' => tg' = tg ∧ (∃ (kk oo tt hh ww ss ll : Nat → Int32) (pp bb : Nat), H = (Z ++ k_M th u so fz fs gt yr kk oo tt hh ww ss ll ls pl ps tp td pp en bb fa fv mt nx pL sg bo wa gv bw of o) ∧ y_RP aK aO aT aH aW aS aL k (y_plaw tp en pt q) v kk oo tt hh ww ss ll pp bb)) m_no tg 0 0 (21, [some (.ref 70), some (.int (nI k))], [], (Z ++ k_M th u so fz fs gt yr aK (upd aO k (nI v)) aT aH aW aS aL ls pl ps tp td (y_wp tp en pt) en (k_sb tp en pt) fa fv mt nx pL sg bo wa gv bw of o)) := by
  have hM := mM_X9_readLaw_ok
  have hw4 := y_wp_le (g := tp) (n := en) (p := pt) (by omega)
  have hw5 := y_wp_le (g := tp) (n := en) (p := (y_wp tp en pt)) (by omega)
  refine m_J_run hM 1 rfl ⟨trivial, trivial⟩ ?_
  refine m_cV0 hZ hM rfl kw_X9_145 rfl rfl rfl (y_word hZ hby hen (by omega)) k_Ml (Nat.le_of_ble_eq_true rfl) ?_
  refine m_J_run hM 1 rfl ⟨trivial, trivial⟩ ?_
  refine m_J_ldcS (si := 32) hM rfl rfl ?_
  refine m_cV1 hZ hM rfl kw_X9_148 rfl rfl rfl (y_isWord hZ hby hen (b0 := (k_sb tp en (y_wp tp en pt))) (r := k_rl tp en 97 122 (k_sb tp en (y_wp tp en pt))) (si := 32) (by omega) (k_rl_le (by omega) (k_sb_le (by omega)).2)) k_Ml (Nat.le_of_ble_eq_true rfl) ?_
  refine m_J_eqH (H' := (Z ++ k_M th u so fz fs gt yr aK (upd aO k (nI v)) aT aH aW aS aL ls pl ps tp td (y_wp tp en (y_wp tp en pt)) en (k_sb tp en (y_wp tp en pt)) fa fv mt nx pL sg bo wa gv bw of o)) rfl ?_
  show m_J _ _ _ _ _ _ _ _ _ _ _ _ (_, _, Value.int (k_z (k_swb tp en (y_wp tp en pt) 32)) :: _, _)
  cases h1 : k_swb tp en (y_wp tp en pt) 32 with
  | false =>
    refine m_J_run hM 1 rfl ⟨trivial, trivial⟩ ?_
    refine m_J_if (fun _ => ?_) (fun hc => absurd (by decide) hc)
    exact y_rlaw2 hZ hby hen q hk hpt hU hUt h1
  | true =>
    refine m_J_run hM 1 rfl ⟨trivial, trivial⟩ ?_
    refine m_J_if (fun hc => absurd hc (by decide)) (fun _ => ?_)
    refine m_J_run hM 1 rfl ⟨trivial, trivial⟩ ?_
    refine m_J_getf hM rfl rfl (kZ hZ 0 rfl) (rfl) ?_
    refine m_J_run hM 2 rfl ⟨trivial, trivial, trivial⟩ ?_
    refine m_iastN hM rfl (kZ hZ 4 rfl) (by omega) (by omega) ?_
    refine m_J_eqH (H' := (Z ++ k_M th u so fz fs gt yr (upd aK k (nI 5)) (upd aO k (nI v)) aT aH aW aS aL ls pl ps tp td (y_wp tp en (y_wp tp en pt)) en (k_sb tp en (y_wp tp en pt)) fa fv mt nx pL sg bo wa gv bw of o)) (kZs hZ 4 (rfl)) ?_
    refine m_J_run hM 1 rfl ⟨trivial, trivial⟩ ?_
    exact m_J_iret hM rfl rfl (by decide) (Nat.le_of_ble_eq_true rfl) (Nat.le_of_ble_eq_true rfl) (⟨rfl, _, _, _, _, _, _, _, _, _, rfl, fun j hj => by simp [upd, hj], by rw [show y_plaw tp en pt q = .inl (y_wp tp en (y_wp tp en pt), (5, v, q.2.2)) by simp [y_plaw, hU, h1]]; exact ⟨rfl, rfl, by simp [y_LR, upd]⟩⟩)
set_option maxHeartbeats 4000000 in
set_option maxRecDepth 100000 in
theorem y_readLaw (hZ : Z.length = 70) (hby : ∀ p, p < 400 → k_isb (tp p)) (hen : en ≤ 400) {k : Nat} (q : kL) (hk : k < 28) (hpt : pt ≤ en) : m_Sp l (m_EX E N xs) E mM_X9_readLaw (d + 7) 0 0 [.ref 70, .int (nI k)] (Z ++ k_M th u so fz fs gt yr aK aO aT aH aW aS aL ls pl ps tp td pt en bg fa fv mt nx pL sg bo wa gv bw of o) tg (fun v H tg' => tg' = tg ∧ (∃ (kk oo tt hh ww ss ll : Nat → Int32) (pp bb : Nat), H = (Z ++ k_M th u so fz fs gt yr kk oo tt hh ww ss ll ls pl ps tp td pp en bb fa fv mt nx pL sg bo wa gv bw of o) ∧ y_RP aK aO aT aH aW aS aL k (y_plaw tp en pt q) v kk oo tt hh ww ss ll pp bb)) m_no := by
  have hM := mM_X9_readLaw_ok
  refine m_Sp_of (by decide) (Nat.le_of_ble_eq_true rfl) ?_
  refine m_J_run hM 1 rfl ⟨trivial, trivial⟩ ?_
  refine m_J_getf hM rfl rfl (kZ hZ 0 rfl) (rfl) ?_
  refine m_J_run hM 2 rfl ⟨trivial, trivial, trivial⟩ ?_
  refine m_cV0 hZ hM rfl kw_X9_172 rfl rfl rfl (y_readUse hZ hby hen (by omega)) k_Ml (Nat.le_of_ble_eq_true rfl) ?_
  have hw13 := y_wp_le (g := tp) (n := en) (p := pt) (by omega)
  cases hU : y_uq tp en pt with
  | none =>
    rw [k_on_n]
    refine m_iastN hM rfl (kZ hZ 5 rfl) (by omega) (by omega) ?_
    refine m_J_eqH (H' := (Z ++ k_M th u so fz fs gt yr aK (upd aO k (-nI 1)) aT aH aW aS aL ls pl ps tp td (y_wp tp en pt) en (k_sb tp en pt) fa fv mt nx pL sg bo wa gv bw of o)) (kZs hZ 5 (rfl)) ?_
    refine m_J_run hM 1 rfl ⟨trivial, trivial⟩ ?_
    refine m_J_getf hM rfl rfl (kZ hZ 0 rfl) (rfl) ?_
    refine m_J_run hM 1 rfl ⟨trivial, trivial⟩ ?_
    refine m_ialdN hM rfl (kZ hZ 5 rfl) (by omega) (by omega) ?_
    rw [pk_us]
    refine m_J_run hM 1 rfl ⟨trivial, trivial⟩ ?_
    refine m_J_if (fun hc => absurd hc (by decide)) (fun _ => ?_)
    refine m_J_run hM 1 rfl ⟨trivial, trivial⟩ ?_
    exact m_J_iret hM rfl rfl (by decide) (Nat.le_of_ble_eq_true rfl) (Nat.le_of_ble_eq_true rfl) (⟨rfl, _, _, _, _, _, _, _, _, _, rfl, fun j hj => by simp [upd, hj], by rw [show y_plaw tp en pt q = .inr (k_sb tp en pt) by simp [y_plaw, hU]]; exact ⟨rfl, rfl⟩⟩)
  | some v =>
    rw [k_on_s]
    have hUt := y_uq_lt hU
    refine m_iastN hM rfl (kZ hZ 5 rfl) (by omega) (by omega) ?_
    refine m_J_eqH (H' := (Z ++ k_M th u so fz fs gt yr aK (upd aO k (nI v)) aT aH aW aS aL ls pl ps tp td (y_wp tp en pt) en (k_sb tp en pt) fa fv mt nx pL sg bo wa gv bw of o)) (kZs hZ 5 (rfl)) ?_
    refine m_J_run hM 1 rfl ⟨trivial, trivial⟩ ?_
    refine m_J_getf hM rfl rfl (kZ hZ 0 rfl) (rfl) ?_
    refine m_J_run hM 1 rfl ⟨trivial, trivial⟩ ?_
    refine m_ialdN hM rfl (kZ hZ 5 rfl) (by omega) (by omega) ?_
    rw [pk_us]
    refine m_J_run hM 1 rfl ⟨trivial, trivial⟩ ?_
    refine m_J_if (fun _ => ?_) (fun hc => absurd (nI_pos' (by omega)) hc)
    exact y_rlaw1 hZ hby hen q hk hpt hU hUt
set_option maxHeartbeats 4000000 in
set_option maxRecDepth 100000 in
theorem y_rgrow_hN (hZ : Z.length = 70) (hby : ∀ p, p < 400 → k_isb (tp p)) (hen : en ≤ 400) {k : Nat} (q : kL) (hk : k < 28) (hpt : pt ≤ en) {v : Nat} (hU : y_uq tp en pt = some v) (hUt : v < 5) (h1 : k_swb tp en (y_wp tp en pt) 37 = true) {w : Nat} (hV : y_uq tp en (y_wp tp en (y_wp tp en pt)) = some w) (hVt : w < 5) (h2 : k_swb tp en (y_wp tp en (y_wp tp en (y_wp tp en pt))) 38 = true) {x : Nat} (hW : y_uq tp en (y_wp tp en (y_wp tp en (y_wp tp en (y_wp tp en pt)))) = some x) (hWt : x < 5) (h3 : k_swb tp en (y_wp tp en (y_wp tp en (y_wp tp en (y_wp tp en (y_wp tp en pt))))) 39 = true) {m : Nat} (hN : y_num tp en (y_wp tp en (y_wp tp en (y_wp tp en (y_wp tp en (y_wp tp en (y_wp tp en pt)))))) 1 5 = some m) (hNt : 1 ≤ m ∧ m ≤ 5) : m_J l (m_EX E N xs) E mM_X9_readGrow (d + 7) 0 0 (fun v H tg' => tg' = tg ∧ (∃ (kk oo tt hh ww ss ll : Nat → Int32) (pp bb : Nat), H = (Z ++ k_M th u so fz fs gt yr kk oo tt hh ww ss ll ls pl ps tp td pp en bb fa fv mt nx pL sg bo wa gv bw of o) ∧ y_RP aK aO aT aH aW aS aL k (y_pgrow tp en pt q) v kk oo tt hh ww ss ll pp bb)) m_no tg 0 0 (121, [some (.ref 70), some (.int (nI k))], [], (Z ++ k_M th u so fz fs gt yr (upd aK k (nI 6)) (upd aO k (nI v)) (upd aT k (nI w)) (upd aH k (nI x)) aW (upd aS k (nI m)) aL ls pl ps tp td (y_np tp en (y_wp tp en (y_wp tp en (y_wp tp en (y_wp tp en (y_wp tp en (y_wp tp en pt))))))) en (k_sb tp en (y_wp tp en (y_wp tp en (y_wp tp en (y_wp tp en (y_wp tp en (y_wp tp en pt))))))) fa fv mt nx pL sg bo wa gv bw of o)) := by
  have hM := mM_X9_readGrow_ok
  have hw4 := y_wp_le (g := tp) (n := en) (p := pt) (by omega)
  have hw5 := y_wp_le (g := tp) (n := en) (p := (y_wp tp en pt)) (by omega)
  have hw6 := y_wp_le (g := tp) (n := en) (p := (y_wp tp en (y_wp tp en pt))) (by omega)
  have hw7 := y_wp_le (g := tp) (n := en) (p := (y_wp tp en (y_wp tp en (y_wp tp en pt)))) (by omega)
  have hw8 := y_wp_le (g := tp) (n := en) (p := (y_wp tp en (y_wp tp en (y_wp tp en (y_wp tp en pt))))) (by omega)
  have hw9 := y_wp_le (g := tp) (n := en) (p := (y_wp tp en (y_wp tp en (y_wp tp en (y_wp tp en (y_wp tp en pt)))))) (by omega)
  have hw10 := y_np_le (g := tp) (n := en) (p := (y_wp tp en (y_wp tp en (y_wp tp en (y_wp tp en (y_wp tp en (y_wp tp en pt))))))) (by omega)
  refine m_J_run hM 1 rfl ⟨trivial, trivial⟩ ?_
  refine m_J_getf hM rfl rfl (kZ hZ 0 rfl) (rfl) ?_
  refine m_J_run hM 4 rfl ⟨trivial, trivial, trivial, trivial, trivial⟩ ?_
  refine m_cV2 hZ hM rfl kw_X9_167 rfl rfl rfl (y_number hZ hby hen (by omega) (by omega) (by omega)) k_Ml (Nat.le_of_ble_eq_true rfl) ?_
  have hw15 := y_np_le (g := tp) (n := en) (p := (y_np tp en (y_wp tp en (y_wp tp en (y_wp tp en (y_wp tp en (y_wp tp en (y_wp tp en pt)))))))) (by omega)
  cases hO : y_num tp en (y_np tp en (y_wp tp en (y_wp tp en (y_wp tp en (y_wp tp en (y_wp tp en (y_wp tp en pt))))))) 1 60 with
  | none =>
    rw [k_on_n]
    refine m_iastN hM rfl (kZ hZ 10 rfl) (by omega) (by omega) ?_
    refine m_J_eqH (H' := (Z ++ k_M th u so fz fs gt yr (upd aK k (nI 6)) (upd aO k (nI v)) (upd aT k (nI w)) (upd aH k (nI x)) aW (upd aS k (nI m)) (upd aL k (-nI 1)) ls pl ps tp td (y_np tp en (y_np tp en (y_wp tp en (y_wp tp en (y_wp tp en (y_wp tp en (y_wp tp en (y_wp tp en pt)))))))) en (k_sb tp en (y_np tp en (y_wp tp en (y_wp tp en (y_wp tp en (y_wp tp en (y_wp tp en (y_wp tp en pt)))))))) fa fv mt nx pL sg bo wa gv bw of o)) (kZs hZ 10 (rfl)) ?_
    refine m_J_run hM 1 rfl ⟨trivial, trivial⟩ ?_
    refine m_J_getf hM rfl rfl (kZ hZ 0 rfl) (rfl) ?_
    refine m_J_run hM 1 rfl ⟨trivial, trivial⟩ ?_
    refine m_ialdN hM rfl (kZ hZ 10 rfl) (by omega) (by omega) ?_
    rw [pk_us]
    refine m_J_run hM 1 rfl ⟨trivial, trivial⟩ ?_
    refine m_J_if (fun _ => ?_) (fun hc => absurd (by decide) hc)
    refine m_J_run hM 1 rfl ⟨trivial, trivial⟩ ?_
    exact m_J_iret hM rfl rfl (by decide) (Nat.le_of_ble_eq_true rfl) (Nat.le_of_ble_eq_true rfl) (⟨rfl, _, _, _, _, _, _, _, _, _, rfl, fun j hj => by simp [upd, hj], by rw [show y_pgrow tp en pt q = .inr (k_sb tp en (y_np tp en (y_wp tp en (y_wp tp en (y_wp tp en (y_wp tp en (y_wp tp en (y_wp tp en pt)))))))) by simp [y_pgrow, hU, h1, hV, h2, hW, h3, hN, hO]]; exact ⟨rfl, rfl⟩⟩)
  | some o9 =>
    rw [k_on_s]
    have hOt := y_num_b (by omega) (by omega) hO
    refine m_iastN hM rfl (kZ hZ 10 rfl) (by omega) (by omega) ?_
    refine m_J_eqH (H' := (Z ++ k_M th u so fz fs gt yr (upd aK k (nI 6)) (upd aO k (nI v)) (upd aT k (nI w)) (upd aH k (nI x)) aW (upd aS k (nI m)) (upd aL k (nI o9)) ls pl ps tp td (y_np tp en (y_np tp en (y_wp tp en (y_wp tp en (y_wp tp en (y_wp tp en (y_wp tp en (y_wp tp en pt)))))))) en (k_sb tp en (y_np tp en (y_wp tp en (y_wp tp en (y_wp tp en (y_wp tp en (y_wp tp en (y_wp tp en pt)))))))) fa fv mt nx pL sg bo wa gv bw of o)) (kZs hZ 10 (rfl)) ?_
    refine m_J_run hM 1 rfl ⟨trivial, trivial⟩ ?_
    refine m_J_getf hM rfl rfl (kZ hZ 0 rfl) (rfl) ?_
    refine m_J_run hM 1 rfl ⟨trivial, trivial⟩ ?_
    refine m_ialdN hM rfl (kZ hZ 10 rfl) (by omega) (by omega) ?_
    rw [pk_us]
    refine m_J_run hM 1 rfl ⟨trivial, trivial⟩ ?_
    refine m_J_if (fun hc => absurd hc (nI_pos (by omega))) (fun _ => ?_)
    refine m_J_run hM 2 rfl ⟨trivial, trivial, trivial⟩ ?_
    exact m_J_iret hM rfl rfl (by decide) (Nat.le_of_ble_eq_true rfl) (Nat.le_of_ble_eq_true rfl) (⟨rfl, _, _, _, _, _, _, _, _, _, rfl, fun j hj => by simp [upd, hj], by rw [show y_pgrow tp en pt q = .inl (y_np tp en (y_np tp en (y_wp tp en (y_wp tp en (y_wp tp en (y_wp tp en (y_wp tp en (y_wp tp en pt))))))), (6, v, x, w, m, q.2.2.2.2.2.1, nI o9)) by simp [y_pgrow, hU, h1, hV, h2, hW, h3, hN, hO]]; exact ⟨rfl, rfl, by simp [y_LR, upd]⟩⟩)
set_option maxHeartbeats 4000000 in
set_option maxRecDepth 100000 in
theorem y_rgrow_hW (hZ : Z.length = 70) (hby : ∀ p, p < 400 → k_isb (tp p)) (hen : en ≤ 400) {k : Nat} (q : kL) (hk : k < 28) (hpt : pt ≤ en) {v : Nat} (hU : y_uq tp en pt = some v) (hUt : v < 5) (h1 : k_swb tp en (y_wp tp en pt) 37 = true) {w : Nat} (hV : y_uq tp en (y_wp tp en (y_wp tp en pt)) = some w) (hVt : w < 5) (h2 : k_swb tp en (y_wp tp en (y_wp tp en (y_wp tp en pt))) 38 = true) {x : Nat} (hW : y_uq tp en (y_wp tp en (y_wp tp en (y_wp tp en (y_wp tp en pt)))) = some x) (hWt : x < 5) (h3 : k_swb tp en (y_wp tp en (y_wp tp en (y_wp tp en (y_wp tp en (y_wp tp en pt))))) 39 = true) : m_J l (m_EX E N xs) E mM_X9_readGrow (d + 7) 0 0 (fun v H tg' => tg' = tg ∧ (∃ (kk oo tt hh ww ss ll : Nat → Int32) (pp bb : Nat), H = (Z ++ k_M th u so fz fs gt yr kk oo tt hh ww ss ll ls pl ps tp td pp en bb fa fv mt nx pL sg bo wa gv bw of o) ∧ y_RP aK aO aT aH aW aS aL k (y_pgrow tp en pt q) v kk oo tt hh ww ss ll pp bb)) m_no tg 0 0 (98, [some (.ref 70), some (.int (nI k))], [], (Z ++ k_M th u so fz fs gt yr (upd aK k (nI 6)) (upd aO k (nI v)) (upd aT k (nI w)) (upd aH k (nI x)) aW aS aL ls pl ps tp td (y_wp tp en (y_wp tp en (y_wp tp en (y_wp tp en (y_wp tp en (y_wp tp en pt)))))) en (k_sb tp en (y_wp tp en (y_wp tp en (y_wp tp en (y_wp tp en (y_wp tp en pt)))))) fa fv mt nx pL sg bo wa gv bw of o)) := by
  have hM := mM_X9_readGrow_ok
  have hw4 := y_wp_le (g := tp) (n := en) (p := pt) (by omega)
  have hw5 := y_wp_le (g := tp) (n := en) (p := (y_wp tp en pt)) (by omega)
  have hw6 := y_wp_le (g := tp) (n := en) (p := (y_wp tp en (y_wp tp en pt))) (by omega)
  have hw7 := y_wp_le (g := tp) (n := en) (p := (y_wp tp en (y_wp tp en (y_wp tp en pt)))) (by omega)
  have hw8 := y_wp_le (g := tp) (n := en) (p := (y_wp tp en (y_wp tp en (y_wp tp en (y_wp tp en pt))))) (by omega)
  have hw9 := y_wp_le (g := tp) (n := en) (p := (y_wp tp en (y_wp tp en (y_wp tp en (y_wp tp en (y_wp tp en pt)))))) (by omega)
  refine m_J_run hM 1 rfl ⟨trivial, trivial⟩ ?_
  refine m_J_getf hM rfl rfl (kZ hZ 0 rfl) (rfl) ?_
  refine m_J_run hM 4 rfl ⟨trivial, trivial, trivial, trivial, trivial⟩ ?_
  refine m_cV2 hZ hM rfl kw_X9_167 rfl rfl rfl (y_number hZ hby hen (by omega) (by omega) (by omega)) k_Ml (Nat.le_of_ble_eq_true rfl) ?_
  have hw14 := y_np_le (g := tp) (n := en) (p := (y_wp tp en (y_wp tp en (y_wp tp en (y_wp tp en (y_wp tp en (y_wp tp en pt))))))) (by omega)
  cases hN : y_num tp en (y_wp tp en (y_wp tp en (y_wp tp en (y_wp tp en (y_wp tp en (y_wp tp en pt)))))) 1 5 with
  | none =>
    rw [k_on_n]
    refine m_iastN hM rfl (kZ hZ 9 rfl) (by omega) (by omega) ?_
    refine m_J_eqH (H' := (Z ++ k_M th u so fz fs gt yr (upd aK k (nI 6)) (upd aO k (nI v)) (upd aT k (nI w)) (upd aH k (nI x)) aW (upd aS k (-nI 1)) aL ls pl ps tp td (y_np tp en (y_wp tp en (y_wp tp en (y_wp tp en (y_wp tp en (y_wp tp en (y_wp tp en pt))))))) en (k_sb tp en (y_wp tp en (y_wp tp en (y_wp tp en (y_wp tp en (y_wp tp en (y_wp tp en pt))))))) fa fv mt nx pL sg bo wa gv bw of o)) (kZs hZ 9 (rfl)) ?_
    refine m_J_run hM 1 rfl ⟨trivial, trivial⟩ ?_
    refine m_J_getf hM rfl rfl (kZ hZ 0 rfl) (rfl) ?_
    refine m_J_run hM 1 rfl ⟨trivial, trivial⟩ ?_
    refine m_ialdN hM rfl (kZ hZ 9 rfl) (by omega) (by omega) ?_
    rw [pk_us]
    refine m_J_run hM 1 rfl ⟨trivial, trivial⟩ ?_
    refine m_J_if (fun hc => absurd hc (by decide)) (fun _ => ?_)
    refine m_J_run hM 1 rfl ⟨trivial, trivial⟩ ?_
    exact m_J_iret hM rfl rfl (by decide) (Nat.le_of_ble_eq_true rfl) (Nat.le_of_ble_eq_true rfl) (⟨rfl, _, _, _, _, _, _, _, _, _, rfl, fun j hj => by simp [upd, hj], by rw [show y_pgrow tp en pt q = .inr (k_sb tp en (y_wp tp en (y_wp tp en (y_wp tp en (y_wp tp en (y_wp tp en (y_wp tp en pt))))))) by simp [y_pgrow, hU, h1, hV, h2, hW, h3, hN]]; exact ⟨rfl, rfl⟩⟩)
  | some m =>
    rw [k_on_s]
    have hNt := y_num_b (by omega) (by omega) hN
    refine m_iastN hM rfl (kZ hZ 9 rfl) (by omega) (by omega) ?_
    refine m_J_eqH (H' := (Z ++ k_M th u so fz fs gt yr (upd aK k (nI 6)) (upd aO k (nI v)) (upd aT k (nI w)) (upd aH k (nI x)) aW (upd aS k (nI m)) aL ls pl ps tp td (y_np tp en (y_wp tp en (y_wp tp en (y_wp tp en (y_wp tp en (y_wp tp en (y_wp tp en pt))))))) en (k_sb tp en (y_wp tp en (y_wp tp en (y_wp tp en (y_wp tp en (y_wp tp en (y_wp tp en pt))))))) fa fv mt nx pL sg bo wa gv bw of o)) (kZs hZ 9 (rfl)) ?_
    refine m_J_run hM 1 rfl ⟨trivial, trivial⟩ ?_
    refine m_J_getf hM rfl rfl (kZ hZ 0 rfl) (rfl) ?_
    refine m_J_run hM 1 rfl ⟨trivial, trivial⟩ ?_
    refine m_ialdN hM rfl (kZ hZ 9 rfl) (by omega) (by omega) ?_
    rw [pk_us]
    refine m_J_run hM 1 rfl ⟨trivial, trivial⟩ ?_
    refine m_J_if (fun _ => ?_) (fun hc => absurd (nI_pos' (by omega)) hc)
    exact y_rgrow_hN hZ hby hen q hk hpt hU hUt h1 hV hVt h2 hW hWt h3 hN hNt
set_option maxHeartbeats 4000000 in
set_option maxRecDepth 100000 in
theorem y_rgrow_hV (hZ : Z.length = 70) (hby : ∀ p, p < 400 → k_isb (tp p)) (hen : en ≤ 400) {k : Nat} (q : kL) (hk : k < 28) (hpt : pt ≤ en) {v : Nat} (hU : y_uq tp en pt = some v) (hUt : v < 5) (h1 : k_swb tp en (y_wp tp en pt) 37 = true) {w : Nat} (hV : y_uq tp en (y_wp tp en (y_wp tp en pt)) = some w) (hVt : w < 5) (h2 : k_swb tp en (y_wp tp en (y_wp tp en (y_wp tp en pt))) 38 = true) : m_J l (m_EX E N xs) E mM_X9_readGrow (d + 7) 0 0 (fun v H tg' => tg' = tg ∧ (∃ (kk oo tt hh ww ss ll : Nat → Int32) (pp bb : Nat), H = (Z ++ k_M th u so fz fs gt yr kk oo tt hh ww ss ll ls pl ps tp td pp en bb fa fv mt nx pL sg bo wa gv bw of o) ∧ y_RP aK aO aT aH aW aS aL k (y_pgrow tp en pt q) v kk oo tt hh ww ss ll pp bb)) m_no tg 0 0 (68, [some (.ref 70), some (.int (nI k))], [], (Z ++ k_M th u so fz fs gt yr (upd aK k (nI 6)) (upd aO k (nI v)) (upd aT k (nI w)) aH aW aS aL ls pl ps tp td (y_wp tp en (y_wp tp en (y_wp tp en (y_wp tp en pt)))) en (k_sb tp en (y_wp tp en (y_wp tp en (y_wp tp en pt)))) fa fv mt nx pL sg bo wa gv bw of o)) := by
  have hM := mM_X9_readGrow_ok
  have hw4 := y_wp_le (g := tp) (n := en) (p := pt) (by omega)
  have hw5 := y_wp_le (g := tp) (n := en) (p := (y_wp tp en pt)) (by omega)
  have hw6 := y_wp_le (g := tp) (n := en) (p := (y_wp tp en (y_wp tp en pt))) (by omega)
  have hw7 := y_wp_le (g := tp) (n := en) (p := (y_wp tp en (y_wp tp en (y_wp tp en pt)))) (by omega)
  refine m_J_run hM 1 rfl ⟨trivial, trivial⟩ ?_
  refine m_J_getf hM rfl rfl (kZ hZ 0 rfl) (rfl) ?_
  refine m_J_run hM 2 rfl ⟨trivial, trivial, trivial⟩ ?_
  refine m_cV0 hZ hM rfl kw_X9_172 rfl rfl rfl (y_readUse hZ hby hen (by omega)) k_Ml (Nat.le_of_ble_eq_true rfl) ?_
  have hw12 := y_wp_le (g := tp) (n := en) (p := (y_wp tp en (y_wp tp en (y_wp tp en (y_wp tp en pt))))) (by omega)
  cases hW : y_uq tp en (y_wp tp en (y_wp tp en (y_wp tp en (y_wp tp en pt)))) with
  | none =>
    rw [k_on_n]
    refine m_iastN hM rfl (kZ hZ 7 rfl) (by omega) (by omega) ?_
    refine m_J_eqH (H' := (Z ++ k_M th u so fz fs gt yr (upd aK k (nI 6)) (upd aO k (nI v)) (upd aT k (nI w)) (upd aH k (-nI 1)) aW aS aL ls pl ps tp td (y_wp tp en (y_wp tp en (y_wp tp en (y_wp tp en (y_wp tp en pt))))) en (k_sb tp en (y_wp tp en (y_wp tp en (y_wp tp en (y_wp tp en pt))))) fa fv mt nx pL sg bo wa gv bw of o)) (kZs hZ 7 (rfl)) ?_
    refine m_J_run hM 1 rfl ⟨trivial, trivial⟩ ?_
    refine m_J_getf hM rfl rfl (kZ hZ 0 rfl) (rfl) ?_
    refine m_J_run hM 1 rfl ⟨trivial, trivial⟩ ?_
    refine m_ialdN hM rfl (kZ hZ 7 rfl) (by omega) (by omega) ?_
    rw [pk_us]
    refine m_J_run hM 1 rfl ⟨trivial, trivial⟩ ?_
    refine m_J_if (fun _ => ?_) (fun hc => absurd (by decide) hc)
    refine m_J_run hM 1 rfl ⟨trivial, trivial⟩ ?_
    exact m_J_iret hM rfl rfl (by decide) (Nat.le_of_ble_eq_true rfl) (Nat.le_of_ble_eq_true rfl) (⟨rfl, _, _, _, _, _, _, _, _, _, rfl, fun j hj => by simp [upd, hj], by rw [show y_pgrow tp en pt q = .inr (k_sb tp en (y_wp tp en (y_wp tp en (y_wp tp en (y_wp tp en pt))))) by simp [y_pgrow, hU, h1, hV, h2, hW]]; exact ⟨rfl, rfl⟩⟩)
  | some x =>
    rw [k_on_s]
    have hWt := y_uq_lt hW
    refine m_iastN hM rfl (kZ hZ 7 rfl) (by omega) (by omega) ?_
    refine m_J_eqH (H' := (Z ++ k_M th u so fz fs gt yr (upd aK k (nI 6)) (upd aO k (nI v)) (upd aT k (nI w)) (upd aH k (nI x)) aW aS aL ls pl ps tp td (y_wp tp en (y_wp tp en (y_wp tp en (y_wp tp en (y_wp tp en pt))))) en (k_sb tp en (y_wp tp en (y_wp tp en (y_wp tp en (y_wp tp en pt))))) fa fv mt nx pL sg bo wa gv bw of o)) (kZs hZ 7 (rfl)) ?_
    refine m_J_run hM 1 rfl ⟨trivial, trivial⟩ ?_
    refine m_J_getf hM rfl rfl (kZ hZ 0 rfl) (rfl) ?_
    refine m_J_run hM 1 rfl ⟨trivial, trivial⟩ ?_
    refine m_ialdN hM rfl (kZ hZ 7 rfl) (by omega) (by omega) ?_
    rw [pk_us]
    refine m_J_run hM 1 rfl ⟨trivial, trivial⟩ ?_
    refine m_J_if (fun hc => absurd hc (nI_pos (by omega))) (fun _ => ?_)
    refine m_J_run hM 1 rfl ⟨trivial, trivial⟩ ?_
    refine m_J_ldcS (si := 39) hM rfl rfl ?_
    refine m_cV1 hZ hM rfl kw_X9_186 rfl rfl rfl (y_need hZ hby hen (si := 39) (by omega) (by omega)) k_Ml (Nat.le_of_ble_eq_true rfl) ?_
    have hw42 := y_wp_le (g := tp) (n := en) (p := (y_wp tp en (y_wp tp en (y_wp tp en (y_wp tp en (y_wp tp en pt)))))) (by omega)
    cases h3 : k_swb tp en (y_wp tp en (y_wp tp en (y_wp tp en (y_wp tp en (y_wp tp en pt))))) 39 with
    | false =>
      refine m_J_run hM 1 rfl ⟨trivial, trivial⟩ ?_
      refine m_J_if (fun hc => absurd hc (by decide)) (fun _ => ?_)
      refine m_J_run hM 1 rfl ⟨trivial, trivial⟩ ?_
      exact m_J_iret hM rfl rfl (by decide) (Nat.le_of_ble_eq_true rfl) (Nat.le_of_ble_eq_true rfl) (⟨rfl, _, _, _, _, _, _, _, _, _, rfl, fun j hj => by simp [upd, hj], by rw [show y_pgrow tp en pt q = .inr (k_sb tp en (y_wp tp en (y_wp tp en (y_wp tp en (y_wp tp en (y_wp tp en pt)))))) by simp [y_pgrow, hU, h1, hV, h2, hW, h3]]; exact ⟨rfl, rfl⟩⟩)
    | true =>
      refine m_J_run hM 1 rfl ⟨trivial, trivial⟩ ?_
      refine m_J_if (fun _ => ?_) (fun hc => absurd (by decide) hc)
      exact y_rgrow_hW hZ hby hen q hk hpt hU hUt h1 hV hVt h2 hW hWt h3
set_option maxHeartbeats 4000000 in
set_option maxRecDepth 100000 in
theorem y_rgrow_hU (hZ : Z.length = 70) (hby : ∀ p, p < 400 → k_isb (tp p)) (hen : en ≤ 400) {k : Nat} (q : kL) (hk : k < 28) (hpt : pt ≤ en) {v : Nat} (hU : y_uq tp en pt = some v) (hUt : v < 5) (h1 : k_swb tp en (y_wp tp en pt) 37 = true) : m_J l (m_EX E N xs) E mM_X9_readGrow (d + 7) 0 0 (fun v H tg' => tg' = tg ∧ (∃ (kk oo tt hh ww ss ll : Nat → Int32) (pp bb : Nat), H = (Z ++ k_M th u so fz fs gt yr kk oo tt hh ww ss ll ls pl ps tp td pp en bb fa fv mt nx pL sg bo wa gv bw of o) ∧ y_RP aK aO aT aH aW aS aL k (y_pgrow tp en pt q) v kk oo tt hh ww ss ll pp bb)) m_no tg 0 0 (38, [some (.ref 70), some (.int (nI k))], [], (Z ++ k_M th u so fz fs gt yr (upd aK k (nI 6)) (upd aO k (nI v)) aT aH aW aS aL ls pl ps tp td (y_wp tp en (y_wp tp en pt)) en (k_sb tp en (y_wp tp en pt)) fa fv mt nx pL sg bo wa gv bw of o)) := by
  have hM := mM_X9_readGrow_ok
  have hw4 := y_wp_le (g := tp) (n := en) (p := pt) (by omega)
  have hw5 := y_wp_le (g := tp) (n := en) (p := (y_wp tp en pt)) (by omega)
  refine m_J_run hM 1 rfl ⟨trivial, trivial⟩ ?_
  refine m_J_getf hM rfl rfl (kZ hZ 0 rfl) (rfl) ?_
  refine m_J_run hM 2 rfl ⟨trivial, trivial, trivial⟩ ?_
  refine m_cV0 hZ hM rfl kw_X9_172 rfl rfl rfl (y_readUse hZ hby hen (by omega)) k_Ml (Nat.le_of_ble_eq_true rfl) ?_
  have hw10 := y_wp_le (g := tp) (n := en) (p := (y_wp tp en (y_wp tp en pt))) (by omega)
  cases hV : y_uq tp en (y_wp tp en (y_wp tp en pt)) with
  | none =>
    rw [k_on_n]
    refine m_iastN hM rfl (kZ hZ 6 rfl) (by omega) (by omega) ?_
    refine m_J_eqH (H' := (Z ++ k_M th u so fz fs gt yr (upd aK k (nI 6)) (upd aO k (nI v)) (upd aT k (-nI 1)) aH aW aS aL ls pl ps tp td (y_wp tp en (y_wp tp en (y_wp tp en pt))) en (k_sb tp en (y_wp tp en (y_wp tp en pt))) fa fv mt nx pL sg bo wa gv bw of o)) (kZs hZ 6 (rfl)) ?_
    refine m_J_run hM 1 rfl ⟨trivial, trivial⟩ ?_
    refine m_J_getf hM rfl rfl (kZ hZ 0 rfl) (rfl) ?_
    refine m_J_run hM 1 rfl ⟨trivial, trivial⟩ ?_
    refine m_ialdN hM rfl (kZ hZ 6 rfl) (by omega) (by omega) ?_
    rw [pk_us]
    refine m_J_run hM 1 rfl ⟨trivial, trivial⟩ ?_
    refine m_J_if (fun _ => ?_) (fun hc => absurd (by decide) hc)
    refine m_J_run hM 1 rfl ⟨trivial, trivial⟩ ?_
    exact m_J_iret hM rfl rfl (by decide) (Nat.le_of_ble_eq_true rfl) (Nat.le_of_ble_eq_true rfl) (⟨rfl, _, _, _, _, _, _, _, _, _, rfl, fun j hj => by simp [upd, hj], by rw [show y_pgrow tp en pt q = .inr (k_sb tp en (y_wp tp en (y_wp tp en pt))) by simp [y_pgrow, hU, h1, hV]]; exact ⟨rfl, rfl⟩⟩)
  | some w =>
    rw [k_on_s]
    have hVt := y_uq_lt hV
    refine m_iastN hM rfl (kZ hZ 6 rfl) (by omega) (by omega) ?_
    refine m_J_eqH (H' := (Z ++ k_M th u so fz fs gt yr (upd aK k (nI 6)) (upd aO k (nI v)) (upd aT k (nI w)) aH aW aS aL ls pl ps tp td (y_wp tp en (y_wp tp en (y_wp tp en pt))) en (k_sb tp en (y_wp tp en (y_wp tp en pt))) fa fv mt nx pL sg bo wa gv bw of o)) (kZs hZ 6 (rfl)) ?_
    refine m_J_run hM 1 rfl ⟨trivial, trivial⟩ ?_
    refine m_J_getf hM rfl rfl (kZ hZ 0 rfl) (rfl) ?_
    refine m_J_run hM 1 rfl ⟨trivial, trivial⟩ ?_
    refine m_ialdN hM rfl (kZ hZ 6 rfl) (by omega) (by omega) ?_
    rw [pk_us]
    refine m_J_run hM 1 rfl ⟨trivial, trivial⟩ ?_
    refine m_J_if (fun hc => absurd hc (nI_pos (by omega))) (fun _ => ?_)
    refine m_J_run hM 1 rfl ⟨trivial, trivial⟩ ?_
    refine m_J_ldcS (si := 38) hM rfl rfl ?_
    refine m_cV1 hZ hM rfl kw_X9_186 rfl rfl rfl (y_need hZ hby hen (si := 38) (by omega) (by omega)) k_Ml (Nat.le_of_ble_eq_true rfl) ?_
    have hw40 := y_wp_le (g := tp) (n := en) (p := (y_wp tp en (y_wp tp en (y_wp tp en pt)))) (by omega)
    cases h2 : k_swb tp en (y_wp tp en (y_wp tp en (y_wp tp en pt))) 38 with
    | false =>
      refine m_J_run hM 1 rfl ⟨trivial, trivial⟩ ?_
      refine m_J_if (fun hc => absurd hc (by decide)) (fun _ => ?_)
      refine m_J_run hM 1 rfl ⟨trivial, trivial⟩ ?_
      exact m_J_iret hM rfl rfl (by decide) (Nat.le_of_ble_eq_true rfl) (Nat.le_of_ble_eq_true rfl) (⟨rfl, _, _, _, _, _, _, _, _, _, rfl, fun j hj => by simp [upd, hj], by rw [show y_pgrow tp en pt q = .inr (k_sb tp en (y_wp tp en (y_wp tp en (y_wp tp en pt)))) by simp [y_pgrow, hU, h1, hV, h2]]; exact ⟨rfl, rfl⟩⟩)
    | true =>
      refine m_J_run hM 1 rfl ⟨trivial, trivial⟩ ?_
      refine m_J_if (fun _ => ?_) (fun hc => absurd (by decide) hc)
      exact y_rgrow_hV hZ hby hen q hk hpt hU hUt h1 hV hVt h2
set_option maxHeartbeats 4000000 in
set_option maxRecDepth 100000 in
theorem y_readGrow (hZ : Z.length = 70) (hby : ∀ p, p < 400 → k_isb (tp p)) (hen : en ≤ 400) {k : Nat} (q : kL) (hk : k < 28) (hpt : pt ≤ en) : m_Sp l (m_EX E N xs) E mM_X9_readGrow (d + 7) 0 0 [.ref 70, .int (nI k)] (Z ++ k_M th u so fz fs gt yr aK aO aT aH aW aS aL ls pl ps tp td pt en bg fa fv mt nx pL sg bo wa gv bw of o) tg (fun v H tg' => tg' = tg ∧ (∃ (kk oo tt hh ww ss ll : Nat → Int32) (pp bb : Nat), H = (Z ++ k_M th u so fz fs gt yr kk oo tt hh ww ss ll ls pl ps tp td pp en bb fa fv mt nx pL sg bo wa gv bw of o) ∧ y_RP aK aO aT aH aW aS aL k (y_pgrow tp en pt q) v kk oo tt hh ww ss ll pp bb)) m_no := by
  have hM := mM_X9_readGrow_ok
  refine m_Sp_of (by decide) (Nat.le_of_ble_eq_true rfl) ?_
  refine m_J_run hM 1 rfl ⟨trivial, trivial⟩ ?_
  refine m_J_getf hM rfl rfl (kZ hZ 0 rfl) (rfl) ?_
  refine m_J_run hM 2 rfl ⟨trivial, trivial, trivial⟩ ?_
  refine m_iastN hM rfl (kZ hZ 4 rfl) (by omega) (by omega) ?_
  refine m_J_eqH (H' := (Z ++ k_M th u so fz fs gt yr (upd aK k (nI 6)) aO aT aH aW aS aL ls pl ps tp td pt en bg fa fv mt nx pL sg bo wa gv bw of o)) (kZs hZ 4 (rfl)) ?_
  refine m_J_run hM 1 rfl ⟨trivial, trivial⟩ ?_
  refine m_J_getf hM rfl rfl (kZ hZ 0 rfl) (rfl) ?_
  refine m_J_run hM 2 rfl ⟨trivial, trivial, trivial⟩ ?_
  refine m_cV0 hZ hM rfl kw_X9_172 rfl rfl rfl (y_readUse hZ hby hen (by omega)) k_Ml (Nat.le_of_ble_eq_true rfl) ?_
  have hw322 := y_wp_le (g := tp) (n := en) (p := pt) (by omega)
  cases hU : y_uq tp en pt with
  | none =>
    rw [k_on_n]
    refine m_iastN hM rfl (kZ hZ 5 rfl) (by omega) (by omega) ?_
    refine m_J_eqH (H' := (Z ++ k_M th u so fz fs gt yr (upd aK k (nI 6)) (upd aO k (-nI 1)) aT aH aW aS aL ls pl ps tp td (y_wp tp en pt) en (k_sb tp en pt) fa fv mt nx pL sg bo wa gv bw of o)) (kZs hZ 5 (rfl)) ?_
    refine m_J_run hM 1 rfl ⟨trivial, trivial⟩ ?_
    refine m_J_getf hM rfl rfl (kZ hZ 0 rfl) (rfl) ?_
    refine m_J_run hM 1 rfl ⟨trivial, trivial⟩ ?_
    refine m_ialdN hM rfl (kZ hZ 5 rfl) (by omega) (by omega) ?_
    rw [pk_us]
    refine m_J_run hM 1 rfl ⟨trivial, trivial⟩ ?_
    refine m_J_if (fun _ => ?_) (fun hc => absurd (by decide) hc)
    refine m_J_run hM 1 rfl ⟨trivial, trivial⟩ ?_
    exact m_J_iret hM rfl rfl (by decide) (Nat.le_of_ble_eq_true rfl) (Nat.le_of_ble_eq_true rfl) (⟨rfl, _, _, _, _, _, _, _, _, _, rfl, fun j hj => by simp [upd, hj], by rw [show y_pgrow tp en pt q = .inr (k_sb tp en pt) by simp [y_pgrow, hU]]; exact ⟨rfl, rfl⟩⟩)
  | some v =>
    rw [k_on_s]
    have hUt := y_uq_lt hU
    refine m_iastN hM rfl (kZ hZ 5 rfl) (by omega) (by omega) ?_
    refine m_J_eqH (H' := (Z ++ k_M th u so fz fs gt yr (upd aK k (nI 6)) (upd aO k (nI v)) aT aH aW aS aL ls pl ps tp td (y_wp tp en pt) en (k_sb tp en pt) fa fv mt nx pL sg bo wa gv bw of o)) (kZs hZ 5 (rfl)) ?_
    refine m_J_run hM 1 rfl ⟨trivial, trivial⟩ ?_
    refine m_J_getf hM rfl rfl (kZ hZ 0 rfl) (rfl) ?_
    refine m_J_run hM 1 rfl ⟨trivial, trivial⟩ ?_
    refine m_ialdN hM rfl (kZ hZ 5 rfl) (by omega) (by omega) ?_
    rw [pk_us]
    refine m_J_run hM 1 rfl ⟨trivial, trivial⟩ ?_
    refine m_J_if (fun hc => absurd hc (nI_pos (by omega))) (fun _ => ?_)
    refine m_J_run hM 1 rfl ⟨trivial, trivial⟩ ?_
    refine m_J_ldcS (si := 37) hM rfl rfl ?_
    refine m_cV1 hZ hM rfl kw_X9_186 rfl rfl rfl (y_need hZ hby hen (si := 37) (by omega) (by omega)) k_Ml (Nat.le_of_ble_eq_true rfl) ?_
    have hw352 := y_wp_le (g := tp) (n := en) (p := (y_wp tp en pt)) (by omega)
    cases h1 : k_swb tp en (y_wp tp en pt) 37 with
    | false =>
      refine m_J_run hM 1 rfl ⟨trivial, trivial⟩ ?_
      refine m_J_if (fun hc => absurd hc (by decide)) (fun _ => ?_)
      refine m_J_run hM 1 rfl ⟨trivial, trivial⟩ ?_
      exact m_J_iret hM rfl rfl (by decide) (Nat.le_of_ble_eq_true rfl) (Nat.le_of_ble_eq_true rfl) (⟨rfl, _, _, _, _, _, _, _, _, _, rfl, fun j hj => by simp [upd, hj], by rw [show y_pgrow tp en pt q = .inr (k_sb tp en (y_wp tp en pt)) by simp [y_pgrow, hU, h1]]; exact ⟨rfl, rfl⟩⟩)
    | true =>
      refine m_J_run hM 1 rfl ⟨trivial, trivial⟩ ?_
      refine m_J_if (fun _ => ?_) (fun hc => absurd (by decide) hc)
      exact y_rgrow_hU hZ hby hen q hk hpt hU hUt h1
end
