/-! THE MODEL: lines (written by wip/gen_model12.py) -/
theorem y_wp_le {g : Nat → Int32} {n p : Nat} (h : p ≤ n) : y_wp g n p ≤ n := k_rl_le (by omega) (k_sb_le h).2
theorem y_np_le {g : Nat → Int32} {n p : Nat} (h : p ≤ n) : y_np g n p ≤ n := k_rl_le (by omega) (k_sb_le h).2
theorem y_uq_lt {g : Nat → Int32} {n p v : Nat} (h : y_uq g n p = some v) : v < 5 := by
  unfold y_uq at h
  repeat' split at h
  all_goals first | (cases h; omega) | cases h
theorem y_num_b {g : Nat → Int32} {n p lo hi m : Nat} (h1 : lo ≤ hi) (h2 : hi < 1000) (h : y_num g n p lo hi = some m) : lo ≤ m ∧ m ≤ hi := by
  unfold y_num at h
  split at h
  · cases h
    have := k_nu_ok (g := g) (n := n) (p := p) h1 h2
    exact ⟨this.1, this.2.1⟩
  · cases h
def y_LR (q : kL) (aK aO aT aH aW aS aL : Nat → Int32) (k : Nat) : Prop :=
  aK k = nI q.1 ∧ aO k = nI q.2.1 ∧ (q.1 = 0 → aT k = nI q.2.2.1 ∧ aS k = nI q.2.2.2.2.1 ∧ aW k = q.2.2.2.2.2.2) ∧ (q.1 = 1 → aS k = nI q.2.2.2.2.2.1 ∧ aW k = q.2.2.2.2.2.2) ∧ (q.1 = 2 → aT k = nI q.2.2.1 ∧ aS k = nI q.2.2.2.2.1) ∧ (q.1 = 3 → aL k = q.2.2.2.2.2.2) ∧ (q.1 = 4 → aL k = q.2.2.2.2.2.2) ∧ (q.1 = 6 → aT k = nI q.2.2.2.1 ∧ aH k = nI q.2.2.1 ∧ aS k = nI q.2.2.2.2.1 ∧ aL k = q.2.2.2.2.2.2)
def y_RQ (res : (Nat × kL) ⊕ Nat) (k : Nat) (v : Option Value) (kk oo tt hh ww ss ll : Nat → Int32) (pp bb : Nat) : Prop := match res with
  | .inl x => v = some (.int (nI 1)) ∧ pp = x.1 ∧ y_LR x.2 kk oo tt hh ww ss ll k
  | .inr e => v = some (.int (nI 0)) ∧ bb = e
def y_RP (aK aO aT aH aW aS aL : Nat → Int32) (k : Nat) (res : (Nat × kL) ⊕ Nat) (v : Option Value) (kk oo tt hh ww ss ll : Nat → Int32) (pp bb : Nat) : Prop :=
  (∀ j, ¬ j = k → kk j = aK j ∧ oo j = aO j ∧ tt j = aT j ∧ hh j = aH j ∧ ww j = aW j ∧ ss j = aS j ∧ ll j = aL j) ∧ y_RQ res k v kk oo tt hh ww ss ll pp bb
/-- the line's text behind 'law', from p on -/
def y_plaw (g : Nat → Int32) (n p : Nat) (q : kL) : (Nat × kL) ⊕ Nat :=
  (y_uq g n p).elim (.inr (k_sb g n p)) fun v =>
    if k_swb g n (y_wp g n p) 32 then .inl (y_wp g n (y_wp g n p), (5, v, q.2.2))
    else if k_swb g n (y_wp g n p) 33 then (y_uq g n (y_wp g n (y_wp g n p))).elim (.inr (k_sb g n (y_wp g n (y_wp g n p)))) fun w => (y_num g n (y_wp g n (y_wp g n (y_wp g n p))) 1 5).elim (.inr (k_sb g n (y_wp g n (y_wp g n (y_wp g n p))))) fun m => .inl (y_np g n (y_wp g n (y_wp g n (y_wp g n p))), (2, v, w, q.2.2.2.1, m, q.2.2.2.2.2))
    else if k_swb g n (y_wp g n p) 34 then (y_num g n (y_wp g n (y_wp g n p)) 0 99).elim (.inr (k_sb g n (y_wp g n (y_wp g n p)))) fun m => .inl (y_np g n (y_wp g n (y_wp g n p)), (3, v, q.2.2.1, q.2.2.2.1, q.2.2.2.2.1, q.2.2.2.2.2.1, nI m))
    else if k_swb g n (y_wp g n p) 35 then (y_num g n (y_wp g n (y_wp g n p)) 0 99).elim (.inr (k_sb g n (y_wp g n (y_wp g n p)))) fun m => .inl (y_np g n (y_wp g n (y_wp g n p)), (4, v, q.2.2.1, q.2.2.2.1, q.2.2.2.2.1, q.2.2.2.2.2.1, nI m))
    else .inr (k_sb g n (y_wp g n p))
def y_pgrow (g : Nat → Int32) (n p : Nat) (q : kL) : (Nat × kL) ⊕ Nat :=
  (y_uq g n p).elim (.inr (k_sb g n p)) fun v =>
    let p1 := y_wp g n p
    if k_swb g n p1 37 then
      (let p2 := y_wp g n p1
       (y_uq g n p2).elim (.inr (k_sb g n p2)) fun w =>
        let p3 := y_wp g n p2
        if k_swb g n p3 38 then
          (let p4 := y_wp g n p3
           (y_uq g n p4).elim (.inr (k_sb g n p4)) fun x =>
            let p5 := y_wp g n p4
            if k_swb g n p5 39 then
              (let p6 := y_wp g n p5
               (y_num g n p6 1 5).elim (.inr (k_sb g n p6)) fun m => (y_num g n (y_np g n p6) 1 60).elim (.inr (k_sb g n (y_np g n p6))) fun o => .inl (y_np g n (y_np g n p6), (6, v, x, w, m, q.2.2.2.2.2.1, nI o)))
            else .inr (k_sb g n p5))
        else .inr (k_sb g n p3))
    else .inr (k_sb g n p1)
/-- behind the number: near or on -/
def y_pw2 (g : Nat → Int32) (n p v : Nat) (q : kL) (x : Int32) : (Nat × kL) ⊕ Nat :=
  if k_swb g n p 39 then (y_uq g n (y_wp g n p)).elim (.inr (k_sb g n (y_wp g n p))) fun w => (y_num g n (y_wp g n (y_wp g n p)) 1 5).elim (.inr (k_sb g n (y_wp g n (y_wp g n p)))) fun m => .inl (y_np g n (y_wp g n (y_wp g n p)), (0, v, w, q.2.2.2.1, m, q.2.2.2.2.2.1, x))
  else if k_swb g n p 41 then (y_num g n (y_wp g n p) 0 9).elim (.inr (k_sb g n (y_wp g n p))) fun m => .inl (y_np g n (y_wp g n p), (1, v, q.2.2.1, q.2.2.2.1, q.2.2.2.2.1, m, x))
  else .inr (k_sb g n p)
/-- behind the use v, from p on -/
def y_pworth (g : Nat → Int32) (n p v : Nat) (q : kL) : (Nat × kL) ⊕ Nat :=
  if k_swb g n p 40 then (y_num g n (y_wp g n p) 0 99).elim (.inr (k_sb g n (y_wp g n p))) fun m => y_pw2 g n (y_np g n (y_wp g n p)) v q (-nI 1 * nI m)
  else if k_rl g n 97 122 (k_sb g n p) = 0 then (y_num g n (y_wp g n p) 0 99).elim (.inr (k_sb g n (y_wp g n p))) fun m => y_pw2 g n (y_np g n (y_wp g n p)) v q (nI 1 * nI m)
  else .inr (k_sb g n p)
def y_pline (g : Nat → Int32) (n p : Nat) (q : kL) : (Nat × kL) ⊕ Nat :=
  if k_swb g n p 26 then y_plaw g n (y_wp g n p) q else if k_swb g n p 36 then y_pgrow g n (y_wp g n p) q else (y_uq g n p).elim (.inr (k_sb g n p)) fun v => y_pworth g n (y_wp g n p) v q
section
variable {l : Launch} {E : mE} {N : Nat} {xs : Nat → Int32} {d : Nat} {tg : Bool} {Z : mH} {h : mH}
variable {th : Int32} {u : Nat → Int32} {so : Nat → Int32} {fz : Nat → Bool} {fs : Nat} {gt : Nat} {yr : Nat} {aK : Nat → Int32} {aO : Nat → Int32} {aT : Nat → Int32} {aH : Nat → Int32} {aW : Nat → Int32} {aS : Nat → Int32} {aL : Nat → Int32} {ls : Nat} {pl : Nat → Int32} {ps : Nat} {tp : Nat → Int32} {td : Nat} {pt : Nat} {en : Nat} {bg : Nat} {fa : Int32} {fv : Nat → Int32} {mt : Nat → Bool} {nx : Nat → Int32} {pL : Nat → Nat} {sg : Nat → Int32} {bo : Nat → Int32} {wa : Nat → Int32} {gv : Nat → Int32} {bw : Int32} {of : Nat → Int32} {o : mH}
set_option maxHeartbeats 4000000 in
set_option maxRecDepth 100000 in
theorem y_readLaw (hZ : Z.length = 70) (hby : ∀ p, p < 400 → k_isb (tp p)) (hen : en ≤ 400) {k : Nat} (q : kL) (hk : k < 28) (hpt : pt ≤ en) : m_Sp l (m_EX E N xs) E mM_X9_readLaw (d + 7) 0 0 [.ref 70, .int (nI k)] (Z ++ k_M th u so fz fs gt yr aK aO aT aH aW aS aL ls pl ps tp td pt en bg fa fv mt nx pL sg bo wa gv bw of o) tg (fun v H tg' => tg' = tg ∧ (∃ (kk oo tt hh ww ss ll : Nat → Int32) (pp bb : Nat), H = (Z ++ k_M th u so fz fs gt yr kk oo tt hh ww ss ll ls pl ps tp td pp en bb fa fv mt nx pL sg bo wa gv bw of o) ∧ y_RP aK aO aT aH aW aS aL k (y_plaw tp en pt q) v kk oo tt hh ww ss ll pp bb)) m_no := by
  have hM := mM_X9_readLaw_ok
  refine m_Sp_of (by decide) (Nat.le_of_ble_eq_true rfl) ?_
  refine m_J_run hM 1 rfl ⟨trivial, trivial⟩ ?_
  refine m_J_getf hM rfl rfl (kZ hZ 0 rfl) (rfl) ?_
  refine m_J_run hM 2 rfl ⟨trivial, trivial, trivial⟩ ?_
  refine m_cV0 hZ hM rfl kw_X9_172 rfl rfl rfl (y_readUse hZ hby hen (by omega)) rfl (Nat.le_of_ble_eq_true rfl) ?_
  have hw14 := y_wp_le (g := tp) (n := en) (p := pt) (by omega)
  cases hU : y_uq tp en pt with
  | none =>
    rw [k_on_n]
    refine m_iastN hM rfl (kZ hZ 5 rfl) (by omega) (by omega) ?_
    refine m_J_eqH (H' := (Z ++ k_M th u so fz fs gt yr aK (upd aO k (-nI 1)) aT aH aW aS aL ls pl ps tp td (y_wp tp en pt) en (k_sb tp en pt) fa fv mt nx pL sg bo wa gv bw of o)) (kZs hZ 5 (rfl)) ?_
    refine m_J_run hM 1 rfl ⟨trivial, trivial⟩ ?_
    refine m_J_getf hM rfl rfl (kZ hZ 0 rfl) (rfl) ?_
    refine m_J_run hM 1 rfl ⟨trivial, trivial⟩ ?_
    refine m_ialdN hM rfl (kZ hZ 5 rfl) (by omega) (by omega) ?_
    rw [pk_us]
    refine m_J_run hM 1 rfl ⟨trivial, trivial⟩ ?_
    refine m_J_if (fun hc => absurd hc (by decide)) (fun _ => ?_)
    refine m_J_run hM 1 rfl ⟨trivial, trivial⟩ ?_
    exact m_J_iret hM rfl rfl (by decide) (Nat.le_of_ble_eq_true rfl) (Nat.le_of_ble_eq_true rfl) (⟨rfl, _, _, _, _, _, _, _, _, _, rfl, fun j hj => by simp [upd, hj], by rw [show y_plaw tp en pt q = .inr (k_sb tp en pt) by simp [y_plaw, hU]]; exact ⟨rfl, rfl⟩⟩)
  | some v =>
    rw [k_on_s]
    have hUt := y_uq_lt hU
    refine m_iastN hM rfl (kZ hZ 5 rfl) (by omega) (by omega) ?_
    refine m_J_eqH (H' := (Z ++ k_M th u so fz fs gt yr aK (upd aO k (nI v)) aT aH aW aS aL ls pl ps tp td (y_wp tp en pt) en (k_sb tp en pt) fa fv mt nx pL sg bo wa gv bw of o)) (kZs hZ 5 (rfl)) ?_
    refine m_J_run hM 1 rfl ⟨trivial, trivial⟩ ?_
    refine m_J_getf hM rfl rfl (kZ hZ 0 rfl) (rfl) ?_
    refine m_J_run hM 1 rfl ⟨trivial, trivial⟩ ?_
    refine m_ialdN hM rfl (kZ hZ 5 rfl) (by omega) (by omega) ?_
    rw [pk_us]
    refine m_J_run hM 1 rfl ⟨trivial, trivial⟩ ?_
    refine m_J_if (fun _ => ?_) (fun hc => absurd (nI_pos' (by omega)) hc)
    refine m_J_run hM 1 rfl ⟨trivial, trivial⟩ ?_
    refine m_cV0 hZ hM rfl kw_X9_145 rfl rfl rfl (y_word hZ hby hen (by omega)) rfl (Nat.le_of_ble_eq_true rfl) ?_
    refine m_J_run hM 1 rfl ⟨trivial, trivial⟩ ?_
    refine m_J_ldcS (si := 32) hM rfl rfl ?_
    refine m_cV1 hZ hM rfl kw_X9_148 rfl rfl rfl (y_isWord hZ hby hen (b0 := (k_sb tp en (y_wp tp en pt))) (r := k_rl tp en 97 122 (k_sb tp en (y_wp tp en pt))) (si := 32) (by omega) (k_rl_le (by omega) (k_sb_le (by omega)).2)) rfl (Nat.le_of_ble_eq_true rfl) ?_
    refine m_J_eqH (H' := (Z ++ k_M th u so fz fs gt yr aK (upd aO k (nI v)) aT aH aW aS aL ls pl ps tp td (y_wp tp en (y_wp tp en pt)) en (k_sb tp en (y_wp tp en pt)) fa fv mt nx pL sg bo wa gv bw of o)) rfl ?_
    show m_J _ _ _ _ _ _ _ _ _ _ _ _ (_, _, Value.int (k_z (k_swb tp en (y_wp tp en pt) 32)) :: _, _)
    have hw48 := y_wp_le (g := tp) (n := en) (p := (y_wp tp en pt)) (by omega)
    cases h1 : k_swb tp en (y_wp tp en pt) 32 with
    | false =>
      refine m_J_run hM 1 rfl ⟨trivial, trivial⟩ ?_
      refine m_J_if (fun _ => ?_) (fun hc => absurd (by decide) hc)
      refine m_J_run hM 1 rfl ⟨trivial, trivial⟩ ?_
      refine m_J_ldcS (si := 33) hM rfl rfl ?_
      refine m_cV1 hZ hM rfl kw_X9_148 rfl rfl rfl (y_isWord hZ hby hen (b0 := (k_sb tp en (y_wp tp en pt))) (r := k_rl tp en 97 122 (k_sb tp en (y_wp tp en pt))) (si := 33) (by omega) (k_rl_le (by omega) (k_sb_le (by omega)).2)) rfl (Nat.le_of_ble_eq_true rfl) ?_
      refine m_J_eqH (H' := (Z ++ k_M th u so fz fs gt yr aK (upd aO k (nI v)) aT aH aW aS aL ls pl ps tp td (y_wp tp en (y_wp tp en pt)) en (k_sb tp en (y_wp tp en pt)) fa fv mt nx pL sg bo wa gv bw of o)) rfl ?_
      show m_J _ _ _ _ _ _ _ _ _ _ _ _ (_, _, Value.int (k_z (k_swb tp en (y_wp tp en pt) 33)) :: _, _)
      cases h2 : k_swb tp en (y_wp tp en pt) 33 with
      | false =>
        refine m_J_run hM 1 rfl ⟨trivial, trivial⟩ ?_
        refine m_J_if (fun _ => ?_) (fun hc => absurd (by decide) hc)
        refine m_J_run hM 1 rfl ⟨trivial, trivial⟩ ?_
        refine m_J_getf hM rfl rfl (kZ hZ 0 rfl) (rfl) ?_
        refine m_J_run hM 2 rfl ⟨trivial, trivial, trivial⟩ ?_
        refine m_J_ldcS (si := 34) hM rfl rfl ?_
        refine m_cV1 hZ hM rfl kw_X9_148 rfl rfl rfl (y_isWord hZ hby hen (b0 := (k_sb tp en (y_wp tp en pt))) (r := k_rl tp en 97 122 (k_sb tp en (y_wp tp en pt))) (si := 34) (by omega) (k_rl_le (by omega) (k_sb_le (by omega)).2)) rfl (Nat.le_of_ble_eq_true rfl) ?_
        refine m_J_eqH (H' := (Z ++ k_M th u so fz fs gt yr aK (upd aO k (nI v)) aT aH aW aS aL ls pl ps tp td (y_wp tp en (y_wp tp en pt)) en (k_sb tp en (y_wp tp en pt)) fa fv mt nx pL sg bo wa gv bw of o)) rfl ?_
        show m_J _ _ _ _ _ _ _ _ _ _ _ _ (_, _, Value.int (k_z (k_swb tp en (y_wp tp en pt) 34)) :: _, _)
        cases h3 : k_swb tp en (y_wp tp en pt) 34 with
        | false =>
          refine m_J_run hM 1 rfl ⟨trivial, trivial⟩ ?_
          refine m_J_if (fun _ => ?_) (fun hc => absurd (by decide) hc)
          refine m_J_run hM 1 rfl ⟨trivial, trivial⟩ ?_
          refine m_iastN hM rfl (kZ hZ 4 rfl) (by omega) (by omega) ?_
          refine m_J_eqH (H' := (Z ++ k_M th u so fz fs gt yr (upd aK k (nI 4)) (upd aO k (nI v)) aT aH aW aS aL ls pl ps tp td (y_wp tp en (y_wp tp en pt)) en (k_sb tp en (y_wp tp en pt)) fa fv mt nx pL sg bo wa gv bw of o)) (kZs hZ 4 (rfl)) ?_
          refine m_J_run hM 1 rfl ⟨trivial, trivial⟩ ?_
          refine m_J_ldcS (si := 34) hM rfl rfl ?_
          refine m_cV1 hZ hM rfl kw_X9_148 rfl rfl rfl (y_isWord hZ hby hen (b0 := (k_sb tp en (y_wp tp en pt))) (r := k_rl tp en 97 122 (k_sb tp en (y_wp tp en pt))) (si := 34) (by omega) (k_rl_le (by omega) (k_sb_le (by omega)).2)) rfl (Nat.le_of_ble_eq_true rfl) ?_
          refine m_J_eqH (H' := (Z ++ k_M th u so fz fs gt yr (upd aK k (nI 4)) (upd aO k (nI v)) aT aH aW aS aL ls pl ps tp td (y_wp tp en (y_wp tp en pt)) en (k_sb tp en (y_wp tp en pt)) fa fv mt nx pL sg bo wa gv bw of o)) rfl ?_
          show m_J _ _ _ _ _ _ _ _ _ _ _ _ (_, _, Value.int (k_z (k_swb tp en (y_wp tp en pt) 34)) :: _, _)
          rw [h3]
          refine m_J_run hM 1 rfl ⟨trivial, trivial⟩ ?_
          refine m_J_if (fun hc => absurd hc (by decide)) (fun _ => ?_)
          refine m_J_run hM 1 rfl ⟨trivial, trivial⟩ ?_
          refine m_J_ldcS (si := 35) hM rfl rfl ?_
          refine m_cV1 hZ hM rfl kw_X9_148 rfl rfl rfl (y_isWord hZ hby hen (b0 := (k_sb tp en (y_wp tp en pt))) (r := k_rl tp en 97 122 (k_sb tp en (y_wp tp en pt))) (si := 35) (by omega) (k_rl_le (by omega) (k_sb_le (by omega)).2)) rfl (Nat.le_of_ble_eq_true rfl) ?_
          refine m_J_eqH (H' := (Z ++ k_M th u so fz fs gt yr (upd aK k (nI 4)) (upd aO k (nI v)) aT aH aW aS aL ls pl ps tp td (y_wp tp en (y_wp tp en pt)) en (k_sb tp en (y_wp tp en pt)) fa fv mt nx pL sg bo wa gv bw of o)) rfl ?_
          show m_J _ _ _ _ _ _ _ _ _ _ _ _ (_, _, Value.int (k_z (k_swb tp en (y_wp tp en pt) 35)) :: _, _)
          cases h4 : k_swb tp en (y_wp tp en pt) 35 with
          | false =>
            refine m_J_run hM 1 rfl ⟨trivial, trivial⟩ ?_
            refine m_J_if (fun hc => absurd hc (by decide)) (fun _ => ?_)
            refine m_J_run hM 1 rfl ⟨trivial, trivial⟩ ?_
            exact m_J_iret hM rfl rfl (by decide) (Nat.le_of_ble_eq_true rfl) (Nat.le_of_ble_eq_true rfl) (⟨rfl, _, _, _, _, _, _, _, _, _, rfl, fun j hj => by simp [upd, hj], by rw [show y_plaw tp en pt q = .inr (k_sb tp en (y_wp tp en pt)) by simp [y_plaw, hU, h1, h2, h3, h4]]; exact ⟨rfl, rfl⟩⟩)
          | true =>
            refine m_J_run hM 1 rfl ⟨trivial, trivial⟩ ?_
            refine m_J_if (fun _ => ?_) (fun hc => absurd (by decide) hc)
            refine m_J_run hM 1 rfl ⟨trivial, trivial⟩ ?_
            refine m_J_getf hM rfl rfl (kZ hZ 0 rfl) (rfl) ?_
            refine m_J_run hM 4 rfl ⟨trivial, trivial, trivial, trivial, trivial⟩ ?_
            refine m_cV2 hZ hM rfl kw_X9_167 rfl rfl rfl (y_number hZ hby hen (by omega) (by omega) (by omega)) rfl (Nat.le_of_ble_eq_true rfl) ?_
            have hw102 := y_np_le (g := tp) (n := en) (p := (y_wp tp en (y_wp tp en pt))) (by omega)
            cases hN : y_num tp en (y_wp tp en (y_wp tp en pt)) 0 99 with
            | none =>
              rw [k_on_n]
              refine m_iastN hM rfl (kZ hZ 10 rfl) (by omega) (by omega) ?_
              refine m_J_eqH (H' := (Z ++ k_M th u so fz fs gt yr (upd aK k (nI 4)) (upd aO k (nI v)) aT aH aW aS (upd aL k (-nI 1)) ls pl ps tp td (y_np tp en (y_wp tp en (y_wp tp en pt))) en (k_sb tp en (y_wp tp en (y_wp tp en pt))) fa fv mt nx pL sg bo wa gv bw of o)) (kZs hZ 10 (rfl)) ?_
              refine m_J_run hM 1 rfl ⟨trivial, trivial⟩ ?_
              refine m_J_getf hM rfl rfl (kZ hZ 0 rfl) (rfl) ?_
              refine m_J_run hM 1 rfl ⟨trivial, trivial⟩ ?_
              refine m_ialdN hM rfl (kZ hZ 10 rfl) (by omega) (by omega) ?_
              rw [pk_us]
              refine m_J_run hM 1 rfl ⟨trivial, trivial⟩ ?_
              refine m_J_if (fun _ => ?_) (fun hc => absurd (by decide) hc)
              refine m_J_run hM 1 rfl ⟨trivial, trivial⟩ ?_
              exact m_J_iret hM rfl rfl (by decide) (Nat.le_of_ble_eq_true rfl) (Nat.le_of_ble_eq_true rfl) (⟨rfl, _, _, _, _, _, _, _, _, _, rfl, fun j hj => by simp [upd, hj], by rw [show y_plaw tp en pt q = .inr (k_sb tp en (y_wp tp en (y_wp tp en pt))) by simp [y_plaw, hU, h1, h2, h3, h4, hN]]; exact ⟨rfl, rfl⟩⟩)
            | some m =>
              rw [k_on_s]
              have hNt := y_num_b (by omega) (by omega) hN
              refine m_iastN hM rfl (kZ hZ 10 rfl) (by omega) (by omega) ?_
              refine m_J_eqH (H' := (Z ++ k_M th u so fz fs gt yr (upd aK k (nI 4)) (upd aO k (nI v)) aT aH aW aS (upd aL k (nI m)) ls pl ps tp td (y_np tp en (y_wp tp en (y_wp tp en pt))) en (k_sb tp en (y_wp tp en (y_wp tp en pt))) fa fv mt nx pL sg bo wa gv bw of o)) (kZs hZ 10 (rfl)) ?_
              refine m_J_run hM 1 rfl ⟨trivial, trivial⟩ ?_
              refine m_J_getf hM rfl rfl (kZ hZ 0 rfl) (rfl) ?_
              refine m_J_run hM 1 rfl ⟨trivial, trivial⟩ ?_
              refine m_ialdN hM rfl (kZ hZ 10 rfl) (by omega) (by omega) ?_
              rw [pk_us]
              refine m_J_run hM 1 rfl ⟨trivial, trivial⟩ ?_
              refine m_J_if (fun hc => absurd hc (nI_pos (by omega))) (fun _ => ?_)
              refine m_J_run hM 2 rfl ⟨trivial, trivial, trivial⟩ ?_
              exact m_J_iret hM rfl rfl (by decide) (Nat.le_of_ble_eq_true rfl) (Nat.le_of_ble_eq_true rfl) (⟨rfl, _, _, _, _, _, _, _, _, _, rfl, fun j hj => by simp [upd, hj], by rw [show y_plaw tp en pt q = .inl (y_np tp en (y_wp tp en (y_wp tp en pt)), (4, v, q.2.2.1, q.2.2.2.1, q.2.2.2.2.1, q.2.2.2.2.2.1, nI m)) by simp [y_plaw, hU, h1, h2, h3, h4, hN]]; exact ⟨rfl, rfl, by simp [y_LR, upd]⟩⟩)
        | true =>
          refine m_J_run hM 1 rfl ⟨trivial, trivial⟩ ?_
          refine m_J_if (fun hc => absurd hc (by decide)) (fun _ => ?_)
          refine m_J_run hM 2 rfl ⟨trivial, trivial, trivial⟩ ?_
          refine m_iastN hM rfl (kZ hZ 4 rfl) (by omega) (by omega) ?_
          refine m_J_eqH (H' := (Z ++ k_M th u so fz fs gt yr (upd aK k (nI 3)) (upd aO k (nI v)) aT aH aW aS aL ls pl ps tp td (y_wp tp en (y_wp tp en pt)) en (k_sb tp en (y_wp tp en pt)) fa fv mt nx pL sg bo wa gv bw of o)) (kZs hZ 4 (rfl)) ?_
          refine m_J_run hM 1 rfl ⟨trivial, trivial⟩ ?_
          refine m_J_ldcS (si := 34) hM rfl rfl ?_
          refine m_cV1 hZ hM rfl kw_X9_148 rfl rfl rfl (y_isWord hZ hby hen (b0 := (k_sb tp en (y_wp tp en pt))) (r := k_rl tp en 97 122 (k_sb tp en (y_wp tp en pt))) (si := 34) (by omega) (k_rl_le (by omega) (k_sb_le (by omega)).2)) rfl (Nat.le_of_ble_eq_true rfl) ?_
          refine m_J_eqH (H' := (Z ++ k_M th u so fz fs gt yr (upd aK k (nI 3)) (upd aO k (nI v)) aT aH aW aS aL ls pl ps tp td (y_wp tp en (y_wp tp en pt)) en (k_sb tp en (y_wp tp en pt)) fa fv mt nx pL sg bo wa gv bw of o)) rfl ?_
          show m_J _ _ _ _ _ _ _ _ _ _ _ _ (_, _, Value.int (k_z (k_swb tp en (y_wp tp en pt) 34)) :: _, _)
          rw [h3]
          refine m_J_run hM 1 rfl ⟨trivial, trivial⟩ ?_
          refine m_J_if (fun _ => ?_) (fun hc => absurd (by decide) hc)
          refine m_J_run hM 1 rfl ⟨trivial, trivial⟩ ?_
          refine m_J_getf hM rfl rfl (kZ hZ 0 rfl) (rfl) ?_
          refine m_J_run hM 4 rfl ⟨trivial, trivial, trivial, trivial, trivial⟩ ?_
          refine m_cV2 hZ hM rfl kw_X9_167 rfl rfl rfl (y_number hZ hby hen (by omega) (by omega) (by omega)) rfl (Nat.le_of_ble_eq_true rfl) ?_
          have hw149 := y_np_le (g := tp) (n := en) (p := (y_wp tp en (y_wp tp en pt))) (by omega)
          cases hN : y_num tp en (y_wp tp en (y_wp tp en pt)) 0 99 with
          | none =>
            rw [k_on_n]
            refine m_iastN hM rfl (kZ hZ 10 rfl) (by omega) (by omega) ?_
            refine m_J_eqH (H' := (Z ++ k_M th u so fz fs gt yr (upd aK k (nI 3)) (upd aO k (nI v)) aT aH aW aS (upd aL k (-nI 1)) ls pl ps tp td (y_np tp en (y_wp tp en (y_wp tp en pt))) en (k_sb tp en (y_wp tp en (y_wp tp en pt))) fa fv mt nx pL sg bo wa gv bw of o)) (kZs hZ 10 (rfl)) ?_
            refine m_J_run hM 1 rfl ⟨trivial, trivial⟩ ?_
            refine m_J_getf hM rfl rfl (kZ hZ 0 rfl) (rfl) ?_
            refine m_J_run hM 1 rfl ⟨trivial, trivial⟩ ?_
            refine m_ialdN hM rfl (kZ hZ 10 rfl) (by omega) (by omega) ?_
            rw [pk_us]
            refine m_J_run hM 1 rfl ⟨trivial, trivial⟩ ?_
            refine m_J_if (fun _ => ?_) (fun hc => absurd (by decide) hc)
            refine m_J_run hM 1 rfl ⟨trivial, trivial⟩ ?_
            exact m_J_iret hM rfl rfl (by decide) (Nat.le_of_ble_eq_true rfl) (Nat.le_of_ble_eq_true rfl) (⟨rfl, _, _, _, _, _, _, _, _, _, rfl, fun j hj => by simp [upd, hj], by rw [show y_plaw tp en pt q = .inr (k_sb tp en (y_wp tp en (y_wp tp en pt))) by simp [y_plaw, hU, h1, h2, h3, hN]]; exact ⟨rfl, rfl⟩⟩)
          | some m =>
            rw [k_on_s]
            have hNt := y_num_b (by omega) (by omega) hN
            refine m_iastN hM rfl (kZ hZ 10 rfl) (by omega) (by omega) ?_
            refine m_J_eqH (H' := (Z ++ k_M th u so fz fs gt yr (upd aK k (nI 3)) (upd aO k (nI v)) aT aH aW aS (upd aL k (nI m)) ls pl ps tp td (y_np tp en (y_wp tp en (y_wp tp en pt))) en (k_sb tp en (y_wp tp en (y_wp tp en pt))) fa fv mt nx pL sg bo wa gv bw of o)) (kZs hZ 10 (rfl)) ?_
            refine m_J_run hM 1 rfl ⟨trivial, trivial⟩ ?_
            refine m_J_getf hM rfl rfl (kZ hZ 0 rfl) (rfl) ?_
            refine m_J_run hM 1 rfl ⟨trivial, trivial⟩ ?_
            refine m_ialdN hM rfl (kZ hZ 10 rfl) (by omega) (by omega) ?_
            rw [pk_us]
            refine m_J_run hM 1 rfl ⟨trivial, trivial⟩ ?_
            refine m_J_if (fun hc => absurd hc (nI_pos (by omega))) (fun _ => ?_)
            refine m_J_run hM 2 rfl ⟨trivial, trivial, trivial⟩ ?_
            exact m_J_iret hM rfl rfl (by decide) (Nat.le_of_ble_eq_true rfl) (Nat.le_of_ble_eq_true rfl) (⟨rfl, _, _, _, _, _, _, _, _, _, rfl, fun j hj => by simp [upd, hj], by rw [show y_plaw tp en pt q = .inl (y_np tp en (y_wp tp en (y_wp tp en pt)), (3, v, q.2.2.1, q.2.2.2.1, q.2.2.2.2.1, q.2.2.2.2.2.1, nI m)) by simp [y_plaw, hU, h1, h2, h3, hN]]; exact ⟨rfl, rfl, by simp [y_LR, upd]⟩⟩)
      | true =>
        refine m_J_run hM 1 rfl ⟨trivial, trivial⟩ ?_
        refine m_J_if (fun hc => absurd hc (by decide)) (fun _ => ?_)
        refine m_J_run hM 1 rfl ⟨trivial, trivial⟩ ?_
        refine m_J_getf hM rfl rfl (kZ hZ 0 rfl) (rfl) ?_
        refine m_J_run hM 2 rfl ⟨trivial, trivial, trivial⟩ ?_
        refine m_iastN hM rfl (kZ hZ 4 rfl) (by omega) (by omega) ?_
        refine m_J_eqH (H' := (Z ++ k_M th u so fz fs gt yr (upd aK k (nI 2)) (upd aO k (nI v)) aT aH aW aS aL ls pl ps tp td (y_wp tp en (y_wp tp en pt)) en (k_sb tp en (y_wp tp en pt)) fa fv mt nx pL sg bo wa gv bw of o)) (kZs hZ 4 (rfl)) ?_
        refine m_J_run hM 1 rfl ⟨trivial, trivial⟩ ?_
        refine m_J_getf hM rfl rfl (kZ hZ 0 rfl) (rfl) ?_
        refine m_J_run hM 2 rfl ⟨trivial, trivial, trivial⟩ ?_
        refine m_cV0 hZ hM rfl kw_X9_172 rfl rfl rfl (y_readUse hZ hby hen (by omega)) rfl (Nat.le_of_ble_eq_true rfl) ?_
        have hw190 := y_wp_le (g := tp) (n := en) (p := (y_wp tp en (y_wp tp en pt))) (by omega)
        cases hV : y_uq tp en (y_wp tp en (y_wp tp en pt)) with
        | none =>
          rw [k_on_n]
          refine m_iastN hM rfl (kZ hZ 6 rfl) (by omega) (by omega) ?_
          refine m_J_eqH (H' := (Z ++ k_M th u so fz fs gt yr (upd aK k (nI 2)) (upd aO k (nI v)) (upd aT k (-nI 1)) aH aW aS aL ls pl ps tp td (y_wp tp en (y_wp tp en (y_wp tp en pt))) en (k_sb tp en (y_wp tp en (y_wp tp en pt))) fa fv mt nx pL sg bo wa gv bw of o)) (kZs hZ 6 (rfl)) ?_
          refine m_J_run hM 1 rfl ⟨trivial, trivial⟩ ?_
          refine m_J_getf hM rfl rfl (kZ hZ 0 rfl) (rfl) ?_
          refine m_J_run hM 1 rfl ⟨trivial, trivial⟩ ?_
          refine m_ialdN hM rfl (kZ hZ 6 rfl) (by omega) (by omega) ?_
          rw [pk_us]
          refine m_J_run hM 1 rfl ⟨trivial, trivial⟩ ?_
          refine m_J_if (fun hc => absurd hc (by decide)) (fun _ => ?_)
          refine m_J_run hM 1 rfl ⟨trivial, trivial⟩ ?_
          exact m_J_iret hM rfl rfl (by decide) (Nat.le_of_ble_eq_true rfl) (Nat.le_of_ble_eq_true rfl) (⟨rfl, _, _, _, _, _, _, _, _, _, rfl, fun j hj => by simp [upd, hj], by rw [show y_plaw tp en pt q = .inr (k_sb tp en (y_wp tp en (y_wp tp en pt))) by simp [y_plaw, hU, h1, h2, hV]]; exact ⟨rfl, rfl⟩⟩)
        | some w =>
          rw [k_on_s]
          have hVt := y_uq_lt hV
          refine m_iastN hM rfl (kZ hZ 6 rfl) (by omega) (by omega) ?_
          refine m_J_eqH (H' := (Z ++ k_M th u so fz fs gt yr (upd aK k (nI 2)) (upd aO k (nI v)) (upd aT k (nI w)) aH aW aS aL ls pl ps tp td (y_wp tp en (y_wp tp en (y_wp tp en pt))) en (k_sb tp en (y_wp tp en (y_wp tp en pt))) fa fv mt nx pL sg bo wa gv bw of o)) (kZs hZ 6 (rfl)) ?_
          refine m_J_run hM 1 rfl ⟨trivial, trivial⟩ ?_
          refine m_J_getf hM rfl rfl (kZ hZ 0 rfl) (rfl) ?_
          refine m_J_run hM 1 rfl ⟨trivial, trivial⟩ ?_
          refine m_ialdN hM rfl (kZ hZ 6 rfl) (by omega) (by omega) ?_
          rw [pk_us]
          refine m_J_run hM 1 rfl ⟨trivial, trivial⟩ ?_
          refine m_J_if (fun _ => ?_) (fun hc => absurd (nI_pos' (by omega)) hc)
          refine m_J_run hM 1 rfl ⟨trivial, trivial⟩ ?_
          refine m_J_getf hM rfl rfl (kZ hZ 0 rfl) (rfl) ?_
          refine m_J_run hM 4 rfl ⟨trivial, trivial, trivial, trivial, trivial⟩ ?_
          refine m_cV2 hZ hM rfl kw_X9_167 rfl rfl rfl (y_number hZ hby hen (by omega) (by omega) (by omega)) rfl (Nat.le_of_ble_eq_true rfl) ?_
          have hw221 := y_np_le (g := tp) (n := en) (p := (y_wp tp en (y_wp tp en (y_wp tp en pt)))) (by omega)
          cases hN : y_num tp en (y_wp tp en (y_wp tp en (y_wp tp en pt))) 1 5 with
          | none =>
            rw [k_on_n]
            refine m_iastN hM rfl (kZ hZ 9 rfl) (by omega) (by omega) ?_
            refine m_J_eqH (H' := (Z ++ k_M th u so fz fs gt yr (upd aK k (nI 2)) (upd aO k (nI v)) (upd aT k (nI w)) aH aW (upd aS k (-nI 1)) aL ls pl ps tp td (y_np tp en (y_wp tp en (y_wp tp en (y_wp tp en pt)))) en (k_sb tp en (y_wp tp en (y_wp tp en (y_wp tp en pt)))) fa fv mt nx pL sg bo wa gv bw of o)) (kZs hZ 9 (rfl)) ?_
            refine m_J_run hM 1 rfl ⟨trivial, trivial⟩ ?_
            refine m_J_getf hM rfl rfl (kZ hZ 0 rfl) (rfl) ?_
            refine m_J_run hM 1 rfl ⟨trivial, trivial⟩ ?_
            refine m_ialdN hM rfl (kZ hZ 9 rfl) (by omega) (by omega) ?_
            rw [pk_us]
            refine m_J_run hM 1 rfl ⟨trivial, trivial⟩ ?_
            refine m_J_if (fun _ => ?_) (fun hc => absurd (by decide) hc)
            refine m_J_run hM 1 rfl ⟨trivial, trivial⟩ ?_
            exact m_J_iret hM rfl rfl (by decide) (Nat.le_of_ble_eq_true rfl) (Nat.le_of_ble_eq_true rfl) (⟨rfl, _, _, _, _, _, _, _, _, _, rfl, fun j hj => by simp [upd, hj], by rw [show y_plaw tp en pt q = .inr (k_sb tp en (y_wp tp en (y_wp tp en (y_wp tp en pt)))) by simp [y_plaw, hU, h1, h2, hV, hN]]; exact ⟨rfl, rfl⟩⟩)
          | some m =>
            rw [k_on_s]
            have hNt := y_num_b (by omega) (by omega) hN
            refine m_iastN hM rfl (kZ hZ 9 rfl) (by omega) (by omega) ?_
            refine m_J_eqH (H' := (Z ++ k_M th u so fz fs gt yr (upd aK k (nI 2)) (upd aO k (nI v)) (upd aT k (nI w)) aH aW (upd aS k (nI m)) aL ls pl ps tp td (y_np tp en (y_wp tp en (y_wp tp en (y_wp tp en pt)))) en (k_sb tp en (y_wp tp en (y_wp tp en (y_wp tp en pt)))) fa fv mt nx pL sg bo wa gv bw of o)) (kZs hZ 9 (rfl)) ?_
            refine m_J_run hM 1 rfl ⟨trivial, trivial⟩ ?_
            refine m_J_getf hM rfl rfl (kZ hZ 0 rfl) (rfl) ?_
            refine m_J_run hM 1 rfl ⟨trivial, trivial⟩ ?_
            refine m_ialdN hM rfl (kZ hZ 9 rfl) (by omega) (by omega) ?_
            rw [pk_us]
            refine m_J_run hM 1 rfl ⟨trivial, trivial⟩ ?_
            refine m_J_if (fun hc => absurd hc (nI_pos (by omega))) (fun _ => ?_)
            refine m_J_run hM 2 rfl ⟨trivial, trivial, trivial⟩ ?_
            exact m_J_iret hM rfl rfl (by decide) (Nat.le_of_ble_eq_true rfl) (Nat.le_of_ble_eq_true rfl) (⟨rfl, _, _, _, _, _, _, _, _, _, rfl, fun j hj => by simp [upd, hj], by rw [show y_plaw tp en pt q = .inl (y_np tp en (y_wp tp en (y_wp tp en (y_wp tp en pt))), (2, v, w, q.2.2.2.1, m, q.2.2.2.2.2)) by simp [y_plaw, hU, h1, h2, hV, hN]]; exact ⟨rfl, rfl, by simp [y_LR, upd]⟩⟩)
    | true =>
      refine m_J_run hM 1 rfl ⟨trivial, trivial⟩ ?_
      refine m_J_if (fun hc => absurd hc (by decide)) (fun _ => ?_)
      refine m_J_run hM 1 rfl ⟨trivial, trivial⟩ ?_
      refine m_J_getf hM rfl rfl (kZ hZ 0 rfl) (rfl) ?_
      refine m_J_run hM 2 rfl ⟨trivial, trivial, trivial⟩ ?_
      refine m_iastN hM rfl (kZ hZ 4 rfl) (by omega) (by omega) ?_
      refine m_J_eqH (H' := (Z ++ k_M th u so fz fs gt yr (upd aK k (nI 5)) (upd aO k (nI v)) aT aH aW aS aL ls pl ps tp td (y_wp tp en (y_wp tp en pt)) en (k_sb tp en (y_wp tp en pt)) fa fv mt nx pL sg bo wa gv bw of o)) (kZs hZ 4 (rfl)) ?_
      refine m_J_run hM 1 rfl ⟨trivial, trivial⟩ ?_
      exact m_J_iret hM rfl rfl (by decide) (Nat.le_of_ble_eq_true rfl) (Nat.le_of_ble_eq_true rfl) (⟨rfl, _, _, _, _, _, _, _, _, _, rfl, fun j hj => by simp [upd, hj], by rw [show y_plaw tp en pt q = .inl (y_wp tp en (y_wp tp en pt), (5, v, q.2.2)) by simp [y_plaw, hU, h1]]; exact ⟨rfl, rfl, by simp [y_LR, upd]⟩⟩)
set_option maxHeartbeats 4000000 in
set_option maxRecDepth 100000 in
theorem y_readGrow (hZ : Z.length = 70) (hby : ∀ p, p < 400 → k_isb (tp p)) (hen : en ≤ 400) {k : Nat} (q : kL) (hk : k < 28) (hpt : pt ≤ en) : m_Sp l (m_EX E N xs) E mM_X9_readGrow (d + 7) 0 0 [.ref 70, .int (nI k)] (Z ++ k_M th u so fz fs gt yr aK aO aT aH aW aS aL ls pl ps tp td pt en bg fa fv mt nx pL sg bo wa gv bw of o) tg (fun v H tg' => tg' = tg ∧ (∃ (kk oo tt hh ww ss ll : Nat → Int32) (pp bb : Nat), H = (Z ++ k_M th u so fz fs gt yr kk oo tt hh ww ss ll ls pl ps tp td pp en bb fa fv mt nx pL sg bo wa gv bw of o) ∧ y_RP aK aO aT aH aW aS aL k (y_pgrow tp en pt q) v kk oo tt hh ww ss ll pp bb)) m_no := by
  have hM := mM_X9_readGrow_ok
  refine m_Sp_of (by decide) (Nat.le_of_ble_eq_true rfl) ?_
  refine m_J_run hM 1 rfl ⟨trivial, trivial⟩ ?_
  refine m_J_getf hM rfl rfl (kZ hZ 0 rfl) (rfl) ?_
  refine m_J_run hM 2 rfl ⟨trivial, trivial, trivial⟩ ?_
  refine m_iastN hM rfl (kZ hZ 4 rfl) (by omega) (by omega) ?_
  refine m_J_eqH (H' := (Z ++ k_M th u so fz fs gt yr (upd aK k (nI 6)) aO aT aH aW aS aL ls pl ps tp td pt en bg fa fv mt nx pL sg bo wa gv bw of o)) (kZs hZ 4 (rfl)) ?_
  refine m_J_run hM 1 rfl ⟨trivial, trivial⟩ ?_
  refine m_J_getf hM rfl rfl (kZ hZ 0 rfl) (rfl) ?_
  refine m_J_run hM 2 rfl ⟨trivial, trivial, trivial⟩ ?_
  refine m_cV0 hZ hM rfl kw_X9_172 rfl rfl rfl (y_readUse hZ hby hen (by omega)) rfl (Nat.le_of_ble_eq_true rfl) ?_
  have hw274 := y_wp_le (g := tp) (n := en) (p := pt) (by omega)
  cases hU : y_uq tp en pt with
  | none =>
    rw [k_on_n]
    refine m_iastN hM rfl (kZ hZ 5 rfl) (by omega) (by omega) ?_
    refine m_J_eqH (H' := (Z ++ k_M th u so fz fs gt yr (upd aK k (nI 6)) (upd aO k (-nI 1)) aT aH aW aS aL ls pl ps tp td (y_wp tp en pt) en (k_sb tp en pt) fa fv mt nx pL sg bo wa gv bw of o)) (kZs hZ 5 (rfl)) ?_
    refine m_J_run hM 1 rfl ⟨trivial, trivial⟩ ?_
    refine m_J_getf hM rfl rfl (kZ hZ 0 rfl) (rfl) ?_
    refine m_J_run hM 1 rfl ⟨trivial, trivial⟩ ?_
    refine m_ialdN hM rfl (kZ hZ 5 rfl) (by omega) (by omega) ?_
    rw [pk_us]
    refine m_J_run hM 1 rfl ⟨trivial, trivial⟩ ?_
    refine m_J_if (fun _ => ?_) (fun hc => absurd (by decide) hc)
    refine m_J_run hM 1 rfl ⟨trivial, trivial⟩ ?_
    exact m_J_iret hM rfl rfl (by decide) (Nat.le_of_ble_eq_true rfl) (Nat.le_of_ble_eq_true rfl) (⟨rfl, _, _, _, _, _, _, _, _, _, rfl, fun j hj => by simp [upd, hj], by rw [show y_pgrow tp en pt q = .inr (k_sb tp en pt) by simp [y_pgrow, hU]]; exact ⟨rfl, rfl⟩⟩)
  | some v =>
    rw [k_on_s]
    have hUt := y_uq_lt hU
    refine m_iastN hM rfl (kZ hZ 5 rfl) (by omega) (by omega) ?_
    refine m_J_eqH (H' := (Z ++ k_M th u so fz fs gt yr (upd aK k (nI 6)) (upd aO k (nI v)) aT aH aW aS aL ls pl ps tp td (y_wp tp en pt) en (k_sb tp en pt) fa fv mt nx pL sg bo wa gv bw of o)) (kZs hZ 5 (rfl)) ?_
    refine m_J_run hM 1 rfl ⟨trivial, trivial⟩ ?_
    refine m_J_getf hM rfl rfl (kZ hZ 0 rfl) (rfl) ?_
    refine m_J_run hM 1 rfl ⟨trivial, trivial⟩ ?_
    refine m_ialdN hM rfl (kZ hZ 5 rfl) (by omega) (by omega) ?_
    rw [pk_us]
    refine m_J_run hM 1 rfl ⟨trivial, trivial⟩ ?_
    refine m_J_if (fun hc => absurd hc (nI_pos (by omega))) (fun _ => ?_)
    refine m_J_run hM 1 rfl ⟨trivial, trivial⟩ ?_
    refine m_J_ldcS (si := 37) hM rfl rfl ?_
    refine m_cV1 hZ hM rfl kw_X9_186 rfl rfl rfl (y_need hZ hby hen (si := 37) (by omega) (by omega)) rfl (Nat.le_of_ble_eq_true rfl) ?_
    have hw304 := y_wp_le (g := tp) (n := en) (p := (y_wp tp en pt)) (by omega)
    cases h1 : k_swb tp en (y_wp tp en pt) 37 with
    | false =>
      refine m_J_run hM 1 rfl ⟨trivial, trivial⟩ ?_
      refine m_J_if (fun hc => absurd hc (by decide)) (fun _ => ?_)
      refine m_J_run hM 1 rfl ⟨trivial, trivial⟩ ?_
      exact m_J_iret hM rfl rfl (by decide) (Nat.le_of_ble_eq_true rfl) (Nat.le_of_ble_eq_true rfl) (⟨rfl, _, _, _, _, _, _, _, _, _, rfl, fun j hj => by simp [upd, hj], by rw [show y_pgrow tp en pt q = .inr (k_sb tp en (y_wp tp en pt)) by simp [y_pgrow, hU, h1]]; exact ⟨rfl, rfl⟩⟩)
    | true =>
      refine m_J_run hM 1 rfl ⟨trivial, trivial⟩ ?_
      refine m_J_if (fun _ => ?_) (fun hc => absurd (by decide) hc)
      refine m_J_run hM 1 rfl ⟨trivial, trivial⟩ ?_
      refine m_J_getf hM rfl rfl (kZ hZ 0 rfl) (rfl) ?_
      refine m_J_run hM 2 rfl ⟨trivial, trivial, trivial⟩ ?_
      refine m_cV0 hZ hM rfl kw_X9_172 rfl rfl rfl (y_readUse hZ hby hen (by omega)) rfl (Nat.le_of_ble_eq_true rfl) ?_
      have hw318 := y_wp_le (g := tp) (n := en) (p := (y_wp tp en (y_wp tp en pt))) (by omega)
      cases hV : y_uq tp en (y_wp tp en (y_wp tp en pt)) with
      | none =>
        rw [k_on_n]
        refine m_iastN hM rfl (kZ hZ 6 rfl) (by omega) (by omega) ?_
        refine m_J_eqH (H' := (Z ++ k_M th u so fz fs gt yr (upd aK k (nI 6)) (upd aO k (nI v)) (upd aT k (-nI 1)) aH aW aS aL ls pl ps tp td (y_wp tp en (y_wp tp en (y_wp tp en pt))) en (k_sb tp en (y_wp tp en (y_wp tp en pt))) fa fv mt nx pL sg bo wa gv bw of o)) (kZs hZ 6 (rfl)) ?_
        refine m_J_run hM 1 rfl ⟨trivial, trivial⟩ ?_
        refine m_J_getf hM rfl rfl (kZ hZ 0 rfl) (rfl) ?_
        refine m_J_run hM 1 rfl ⟨trivial, trivial⟩ ?_
        refine m_ialdN hM rfl (kZ hZ 6 rfl) (by omega) (by omega) ?_
        rw [pk_us]
        refine m_J_run hM 1 rfl ⟨trivial, trivial⟩ ?_
        refine m_J_if (fun _ => ?_) (fun hc => absurd (by decide) hc)
        refine m_J_run hM 1 rfl ⟨trivial, trivial⟩ ?_
        exact m_J_iret hM rfl rfl (by decide) (Nat.le_of_ble_eq_true rfl) (Nat.le_of_ble_eq_true rfl) (⟨rfl, _, _, _, _, _, _, _, _, _, rfl, fun j hj => by simp [upd, hj], by rw [show y_pgrow tp en pt q = .inr (k_sb tp en (y_wp tp en (y_wp tp en pt))) by simp [y_pgrow, hU, h1, hV]]; exact ⟨rfl, rfl⟩⟩)
      | some w =>
        rw [k_on_s]
        have hVt := y_uq_lt hV
        refine m_iastN hM rfl (kZ hZ 6 rfl) (by omega) (by omega) ?_
        refine m_J_eqH (H' := (Z ++ k_M th u so fz fs gt yr (upd aK k (nI 6)) (upd aO k (nI v)) (upd aT k (nI w)) aH aW aS aL ls pl ps tp td (y_wp tp en (y_wp tp en (y_wp tp en pt))) en (k_sb tp en (y_wp tp en (y_wp tp en pt))) fa fv mt nx pL sg bo wa gv bw of o)) (kZs hZ 6 (rfl)) ?_
        refine m_J_run hM 1 rfl ⟨trivial, trivial⟩ ?_
        refine m_J_getf hM rfl rfl (kZ hZ 0 rfl) (rfl) ?_
        refine m_J_run hM 1 rfl ⟨trivial, trivial⟩ ?_
        refine m_ialdN hM rfl (kZ hZ 6 rfl) (by omega) (by omega) ?_
        rw [pk_us]
        refine m_J_run hM 1 rfl ⟨trivial, trivial⟩ ?_
        refine m_J_if (fun hc => absurd hc (nI_pos (by omega))) (fun _ => ?_)
        refine m_J_run hM 1 rfl ⟨trivial, trivial⟩ ?_
        refine m_J_ldcS (si := 38) hM rfl rfl ?_
        refine m_cV1 hZ hM rfl kw_X9_186 rfl rfl rfl (y_need hZ hby hen (si := 38) (by omega) (by omega)) rfl (Nat.le_of_ble_eq_true rfl) ?_
        have hw348 := y_wp_le (g := tp) (n := en) (p := (y_wp tp en (y_wp tp en (y_wp tp en pt)))) (by omega)
        cases h2 : k_swb tp en (y_wp tp en (y_wp tp en (y_wp tp en pt))) 38 with
        | false =>
          refine m_J_run hM 1 rfl ⟨trivial, trivial⟩ ?_
          refine m_J_if (fun hc => absurd hc (by decide)) (fun _ => ?_)
          refine m_J_run hM 1 rfl ⟨trivial, trivial⟩ ?_
          exact m_J_iret hM rfl rfl (by decide) (Nat.le_of_ble_eq_true rfl) (Nat.le_of_ble_eq_true rfl) (⟨rfl, _, _, _, _, _, _, _, _, _, rfl, fun j hj => by simp [upd, hj], by rw [show y_pgrow tp en pt q = .inr (k_sb tp en (y_wp tp en (y_wp tp en (y_wp tp en pt)))) by simp [y_pgrow, hU, h1, hV, h2]]; exact ⟨rfl, rfl⟩⟩)
        | true =>
          refine m_J_run hM 1 rfl ⟨trivial, trivial⟩ ?_
          refine m_J_if (fun _ => ?_) (fun hc => absurd (by decide) hc)
          refine m_J_run hM 1 rfl ⟨trivial, trivial⟩ ?_
          refine m_J_getf hM rfl rfl (kZ hZ 0 rfl) (rfl) ?_
          refine m_J_run hM 2 rfl ⟨trivial, trivial, trivial⟩ ?_
          refine m_cV0 hZ hM rfl kw_X9_172 rfl rfl rfl (y_readUse hZ hby hen (by omega)) rfl (Nat.le_of_ble_eq_true rfl) ?_
          have hw362 := y_wp_le (g := tp) (n := en) (p := (y_wp tp en (y_wp tp en (y_wp tp en (y_wp tp en pt))))) (by omega)
          cases hW : y_uq tp en (y_wp tp en (y_wp tp en (y_wp tp en (y_wp tp en pt)))) with
          | none =>
            rw [k_on_n]
            refine m_iastN hM rfl (kZ hZ 7 rfl) (by omega) (by omega) ?_
            refine m_J_eqH (H' := (Z ++ k_M th u so fz fs gt yr (upd aK k (nI 6)) (upd aO k (nI v)) (upd aT k (nI w)) (upd aH k (-nI 1)) aW aS aL ls pl ps tp td (y_wp tp en (y_wp tp en (y_wp tp en (y_wp tp en (y_wp tp en pt))))) en (k_sb tp en (y_wp tp en (y_wp tp en (y_wp tp en (y_wp tp en pt))))) fa fv mt nx pL sg bo wa gv bw of o)) (kZs hZ 7 (rfl)) ?_
            refine m_J_run hM 1 rfl ⟨trivial, trivial⟩ ?_
            refine m_J_getf hM rfl rfl (kZ hZ 0 rfl) (rfl) ?_
            refine m_J_run hM 1 rfl ⟨trivial, trivial⟩ ?_
            refine m_ialdN hM rfl (kZ hZ 7 rfl) (by omega) (by omega) ?_
            rw [pk_us]
            refine m_J_run hM 1 rfl ⟨trivial, trivial⟩ ?_
            refine m_J_if (fun _ => ?_) (fun hc => absurd (by decide) hc)
            refine m_J_run hM 1 rfl ⟨trivial, trivial⟩ ?_
            exact m_J_iret hM rfl rfl (by decide) (Nat.le_of_ble_eq_true rfl) (Nat.le_of_ble_eq_true rfl) (⟨rfl, _, _, _, _, _, _, _, _, _, rfl, fun j hj => by simp [upd, hj], by rw [show y_pgrow tp en pt q = .inr (k_sb tp en (y_wp tp en (y_wp tp en (y_wp tp en (y_wp tp en pt))))) by simp [y_pgrow, hU, h1, hV, h2, hW]]; exact ⟨rfl, rfl⟩⟩)
          | some x =>
            rw [k_on_s]
            have hWt := y_uq_lt hW
            refine m_iastN hM rfl (kZ hZ 7 rfl) (by omega) (by omega) ?_
            refine m_J_eqH (H' := (Z ++ k_M th u so fz fs gt yr (upd aK k (nI 6)) (upd aO k (nI v)) (upd aT k (nI w)) (upd aH k (nI x)) aW aS aL ls pl ps tp td (y_wp tp en (y_wp tp en (y_wp tp en (y_wp tp en (y_wp tp en pt))))) en (k_sb tp en (y_wp tp en (y_wp tp en (y_wp tp en (y_wp tp en pt))))) fa fv mt nx pL sg bo wa gv bw of o)) (kZs hZ 7 (rfl)) ?_
            refine m_J_run hM 1 rfl ⟨trivial, trivial⟩ ?_
            refine m_J_getf hM rfl rfl (kZ hZ 0 rfl) (rfl) ?_
            refine m_J_run hM 1 rfl ⟨trivial, trivial⟩ ?_
            refine m_ialdN hM rfl (kZ hZ 7 rfl) (by omega) (by omega) ?_
            rw [pk_us]
            refine m_J_run hM 1 rfl ⟨trivial, trivial⟩ ?_
            refine m_J_if (fun hc => absurd hc (nI_pos (by omega))) (fun _ => ?_)
            refine m_J_run hM 1 rfl ⟨trivial, trivial⟩ ?_
            refine m_J_ldcS (si := 39) hM rfl rfl ?_
            refine m_cV1 hZ hM rfl kw_X9_186 rfl rfl rfl (y_need hZ hby hen (si := 39) (by omega) (by omega)) rfl (Nat.le_of_ble_eq_true rfl) ?_
            have hw392 := y_wp_le (g := tp) (n := en) (p := (y_wp tp en (y_wp tp en (y_wp tp en (y_wp tp en (y_wp tp en pt)))))) (by omega)
            cases h3 : k_swb tp en (y_wp tp en (y_wp tp en (y_wp tp en (y_wp tp en (y_wp tp en pt))))) 39 with
            | false =>
              refine m_J_run hM 1 rfl ⟨trivial, trivial⟩ ?_
              refine m_J_if (fun hc => absurd hc (by decide)) (fun _ => ?_)
              refine m_J_run hM 1 rfl ⟨trivial, trivial⟩ ?_
              exact m_J_iret hM rfl rfl (by decide) (Nat.le_of_ble_eq_true rfl) (Nat.le_of_ble_eq_true rfl) (⟨rfl, _, _, _, _, _, _, _, _, _, rfl, fun j hj => by simp [upd, hj], by rw [show y_pgrow tp en pt q = .inr (k_sb tp en (y_wp tp en (y_wp tp en (y_wp tp en (y_wp tp en (y_wp tp en pt)))))) by simp [y_pgrow, hU, h1, hV, h2, hW, h3]]; exact ⟨rfl, rfl⟩⟩)
            | true =>
              refine m_J_run hM 1 rfl ⟨trivial, trivial⟩ ?_
              refine m_J_if (fun _ => ?_) (fun hc => absurd (by decide) hc)
              refine m_J_run hM 1 rfl ⟨trivial, trivial⟩ ?_
              refine m_J_getf hM rfl rfl (kZ hZ 0 rfl) (rfl) ?_
              refine m_J_run hM 4 rfl ⟨trivial, trivial, trivial, trivial, trivial⟩ ?_
              refine m_cV2 hZ hM rfl kw_X9_167 rfl rfl rfl (y_number hZ hby hen (by omega) (by omega) (by omega)) rfl (Nat.le_of_ble_eq_true rfl) ?_
              have hw406 := y_np_le (g := tp) (n := en) (p := (y_wp tp en (y_wp tp en (y_wp tp en (y_wp tp en (y_wp tp en (y_wp tp en pt))))))) (by omega)
              cases hN : y_num tp en (y_wp tp en (y_wp tp en (y_wp tp en (y_wp tp en (y_wp tp en (y_wp tp en pt)))))) 1 5 with
              | none =>
                rw [k_on_n]
                refine m_iastN hM rfl (kZ hZ 9 rfl) (by omega) (by omega) ?_
                refine m_J_eqH (H' := (Z ++ k_M th u so fz fs gt yr (upd aK k (nI 6)) (upd aO k (nI v)) (upd aT k (nI w)) (upd aH k (nI x)) aW (upd aS k (-nI 1)) aL ls pl ps tp td (y_np tp en (y_wp tp en (y_wp tp en (y_wp tp en (y_wp tp en (y_wp tp en (y_wp tp en pt))))))) en (k_sb tp en (y_wp tp en (y_wp tp en (y_wp tp en (y_wp tp en (y_wp tp en (y_wp tp en pt))))))) fa fv mt nx pL sg bo wa gv bw of o)) (kZs hZ 9 (rfl)) ?_
                refine m_J_run hM 1 rfl ⟨trivial, trivial⟩ ?_
                refine m_J_getf hM rfl rfl (kZ hZ 0 rfl) (rfl) ?_
                refine m_J_run hM 1 rfl ⟨trivial, trivial⟩ ?_
                refine m_ialdN hM rfl (kZ hZ 9 rfl) (by omega) (by omega) ?_
                rw [pk_us]
                refine m_J_run hM 1 rfl ⟨trivial, trivial⟩ ?_
                refine m_J_if (fun hc => absurd hc (by decide)) (fun _ => ?_)
                refine m_J_run hM 1 rfl ⟨trivial, trivial⟩ ?_
                exact m_J_iret hM rfl rfl (by decide) (Nat.le_of_ble_eq_true rfl) (Nat.le_of_ble_eq_true rfl) (⟨rfl, _, _, _, _, _, _, _, _, _, rfl, fun j hj => by simp [upd, hj], by rw [show y_pgrow tp en pt q = .inr (k_sb tp en (y_wp tp en (y_wp tp en (y_wp tp en (y_wp tp en (y_wp tp en (y_wp tp en pt))))))) by simp [y_pgrow, hU, h1, hV, h2, hW, h3, hN]]; exact ⟨rfl, rfl⟩⟩)
              | some m =>
                rw [k_on_s]
                have hNt := y_num_b (by omega) (by omega) hN
                refine m_iastN hM rfl (kZ hZ 9 rfl) (by omega) (by omega) ?_
                refine m_J_eqH (H' := (Z ++ k_M th u so fz fs gt yr (upd aK k (nI 6)) (upd aO k (nI v)) (upd aT k (nI w)) (upd aH k (nI x)) aW (upd aS k (nI m)) aL ls pl ps tp td (y_np tp en (y_wp tp en (y_wp tp en (y_wp tp en (y_wp tp en (y_wp tp en (y_wp tp en pt))))))) en (k_sb tp en (y_wp tp en (y_wp tp en (y_wp tp en (y_wp tp en (y_wp tp en (y_wp tp en pt))))))) fa fv mt nx pL sg bo wa gv bw of o)) (kZs hZ 9 (rfl)) ?_
                refine m_J_run hM 1 rfl ⟨trivial, trivial⟩ ?_
                refine m_J_getf hM rfl rfl (kZ hZ 0 rfl) (rfl) ?_
                refine m_J_run hM 1 rfl ⟨trivial, trivial⟩ ?_
                refine m_ialdN hM rfl (kZ hZ 9 rfl) (by omega) (by omega) ?_
                rw [pk_us]
                refine m_J_run hM 1 rfl ⟨trivial, trivial⟩ ?_
                refine m_J_if (fun _ => ?_) (fun hc => absurd (nI_pos' (by omega)) hc)
                refine m_J_run hM 1 rfl ⟨trivial, trivial⟩ ?_
                refine m_J_getf hM rfl rfl (kZ hZ 0 rfl) (rfl) ?_
                refine m_J_run hM 4 rfl ⟨trivial, trivial, trivial, trivial, trivial⟩ ?_
                refine m_cV2 hZ hM rfl kw_X9_167 rfl rfl rfl (y_number hZ hby hen (by omega) (by omega) (by omega)) rfl (Nat.le_of_ble_eq_true rfl) ?_
                have hw437 := y_np_le (g := tp) (n := en) (p := (y_np tp en (y_wp tp en (y_wp tp en (y_wp tp en (y_wp tp en (y_wp tp en (y_wp tp en pt)))))))) (by omega)
                cases hO : y_num tp en (y_np tp en (y_wp tp en (y_wp tp en (y_wp tp en (y_wp tp en (y_wp tp en (y_wp tp en pt))))))) 1 60 with
                | none =>
                  rw [k_on_n]
                  refine m_iastN hM rfl (kZ hZ 10 rfl) (by omega) (by omega) ?_
                  refine m_J_eqH (H' := (Z ++ k_M th u so fz fs gt yr (upd aK k (nI 6)) (upd aO k (nI v)) (upd aT k (nI w)) (upd aH k (nI x)) aW (upd aS k (nI m)) (upd aL k (-nI 1)) ls pl ps tp td (y_np tp en (y_np tp en (y_wp tp en (y_wp tp en (y_wp tp en (y_wp tp en (y_wp tp en (y_wp tp en pt)))))))) en (k_sb tp en (y_np tp en (y_wp tp en (y_wp tp en (y_wp tp en (y_wp tp en (y_wp tp en (y_wp tp en pt)))))))) fa fv mt nx pL sg bo wa gv bw of o)) (kZs hZ 10 (rfl)) ?_
                  refine m_J_run hM 1 rfl ⟨trivial, trivial⟩ ?_
                  refine m_J_getf hM rfl rfl (kZ hZ 0 rfl) (rfl) ?_
                  refine m_J_run hM 1 rfl ⟨trivial, trivial⟩ ?_
                  refine m_ialdN hM rfl (kZ hZ 10 rfl) (by omega) (by omega) ?_
                  rw [pk_us]
                  refine m_J_run hM 1 rfl ⟨trivial, trivial⟩ ?_
                  refine m_J_if (fun _ => ?_) (fun hc => absurd (by decide) hc)
                  refine m_J_run hM 1 rfl ⟨trivial, trivial⟩ ?_
                  exact m_J_iret hM rfl rfl (by decide) (Nat.le_of_ble_eq_true rfl) (Nat.le_of_ble_eq_true rfl) (⟨rfl, _, _, _, _, _, _, _, _, _, rfl, fun j hj => by simp [upd, hj], by rw [show y_pgrow tp en pt q = .inr (k_sb tp en (y_np tp en (y_wp tp en (y_wp tp en (y_wp tp en (y_wp tp en (y_wp tp en (y_wp tp en pt)))))))) by simp [y_pgrow, hU, h1, hV, h2, hW, h3, hN, hO]]; exact ⟨rfl, rfl⟩⟩)
                | some o9 =>
                  rw [k_on_s]
                  have hOt := y_num_b (by omega) (by omega) hO
                  refine m_iastN hM rfl (kZ hZ 10 rfl) (by omega) (by omega) ?_
                  refine m_J_eqH (H' := (Z ++ k_M th u so fz fs gt yr (upd aK k (nI 6)) (upd aO k (nI v)) (upd aT k (nI w)) (upd aH k (nI x)) aW (upd aS k (nI m)) (upd aL k (nI o9)) ls pl ps tp td (y_np tp en (y_np tp en (y_wp tp en (y_wp tp en (y_wp tp en (y_wp tp en (y_wp tp en (y_wp tp en pt)))))))) en (k_sb tp en (y_np tp en (y_wp tp en (y_wp tp en (y_wp tp en (y_wp tp en (y_wp tp en (y_wp tp en pt)))))))) fa fv mt nx pL sg bo wa gv bw of o)) (kZs hZ 10 (rfl)) ?_
                  refine m_J_run hM 1 rfl ⟨trivial, trivial⟩ ?_
                  refine m_J_getf hM rfl rfl (kZ hZ 0 rfl) (rfl) ?_
                  refine m_J_run hM 1 rfl ⟨trivial, trivial⟩ ?_
                  refine m_ialdN hM rfl (kZ hZ 10 rfl) (by omega) (by omega) ?_
                  rw [pk_us]
                  refine m_J_run hM 1 rfl ⟨trivial, trivial⟩ ?_
                  refine m_J_if (fun hc => absurd hc (nI_pos (by omega))) (fun _ => ?_)
                  refine m_J_run hM 2 rfl ⟨trivial, trivial, trivial⟩ ?_
                  exact m_J_iret hM rfl rfl (by decide) (Nat.le_of_ble_eq_true rfl) (Nat.le_of_ble_eq_true rfl) (⟨rfl, _, _, _, _, _, _, _, _, _, rfl, fun j hj => by simp [upd, hj], by rw [show y_pgrow tp en pt q = .inl (y_np tp en (y_np tp en (y_wp tp en (y_wp tp en (y_wp tp en (y_wp tp en (y_wp tp en (y_wp tp en pt))))))), (6, v, x, w, m, q.2.2.2.2.2.1, nI o9)) by simp [y_pgrow, hU, h1, hV, h2, hW, h3, hN, hO]]; exact ⟨rfl, rfl, by simp [y_LR, upd]⟩⟩)
end
