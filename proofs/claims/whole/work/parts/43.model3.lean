/-! THE MODEL: pairs, worth, counts, apart (written by wip/gen_model3.py) -/
def k_acc (b : Int32) (g : Nat → Int32) : Nat → Int32
  | 0 => b
  | n + 1 => k_acc b g n + g n
def k_all (p : Nat → Bool) : Nat → Bool
  | 0 => true
  | n + 1 => k_all p n && p n
theorem k_all_iff {p : Nat → Bool} : ∀ {n : Nat}, k_all p n = true ↔ ∀ i, i < n → p i = true := by
  intro n
  induction n with
  | zero => simp [k_all]
  | succ n ih =>
    rw [k_all, Bool.and_eq_true, ih]
    constructor
    · intro h i hi
      by_cases e : i = n
      · rw [e]; exact h.2
      · exact h.1 i (by omega)
    · exact fun h => ⟨fun i hi => h i (by omega), h n (by omega)⟩
theorem k_all_f {p : Nat → Bool} {n i : Nat} (hi : i < n) (hp : p i = false) : k_all p n = false := by
  cases h : k_all p n with
  | false => rfl
  | true => rw [k_all_iff.mp h i hi] at hp; cases hp
def y_pr (aK aO aT aW aS : Nat → Int32) (k s t : Nat) (x y : Int32) : Int32 := if aK k = 0 then (if nI (k_apN s t) ≤ aS k then (if aO k = x then (if aT k = y then aW k else nI 0) else nI 0) + (if aO k = y then (if aT k = x then aW k else nI 0) else nI 0) else nI 0) else nI 0
def y_al (aK aO aW aS so : Nat → Int32) (k s : Nat) (x : Int32) : Int32 := if aK k = nI 1 then (if aO k = x then (if so s < aS k then nI 0 else aW k) else nI 0) else nI 0
def y_ad (aK aO aT aW aS so u : Nat → Int32) (k : Nat) : Nat → Int32
  | 0 => nI 0
  | s + 1 => k_acc (y_ad aK aO aT aW aS so u k s + y_al aK aO aW aS so k s (u s)) (fun t => y_pr aK aO aT aW aS k s t (u s) (u t)) s
def y_isl (aK : Nat → Int32) (k : Nat) : Bool := k_im (aK k) (nI 2) (nI 5)
def y_cnt (u : Nat → Int32) (x : Int32) : Nat → Nat
  | 0 => 0
  | n + 1 => y_cnt u x n + (if u n = x then 1 else 0)
def y_apq (aO aT aS u : Nat → Int32) (k s t : Nat) : Bool := !(decide (s ≠ t ∧ u s = aO k ∧ u t = aT k ∧ ¬ aS k ≤ nI (k_apN s t)))
def y_apb (aO aT aS u : Nat → Int32) (k : Nat) : Bool := k_all (fun s => k_all (fun t => y_apq aO aT aS u k s t) 60) 60
section
variable {l : Launch} {E : mE} {N : Nat} {xs : Nat → Int32} {d : Nat} {tg : Bool} {Z : mH} {h : mH}
variable {th : Int32} {u : Nat → Int32} {so : Nat → Int32} {fz : Nat → Bool} {fs : Nat} {gt : Nat} {yr : Nat} {aK : Nat → Int32} {aO : Nat → Int32} {aT : Nat → Int32} {aH : Nat → Int32} {aW : Nat → Int32} {aS : Nat → Int32} {aL : Nat → Int32} {ls : Nat} {pl : Nat → Int32} {ps : Nat} {tp : Nat → Int32} {td : Nat} {pt : Nat} {en : Nat} {bg : Nat} {fa : Int32} {fv : Nat → Int32} {mt : Nat → Bool} {nx : Nat → Int32} {pL : Nat → Nat} {sg : Nat → Int32} {bo : Nat → Int32} {wa : Nat → Int32} {gv : Nat → Int32} {bw : Int32} {of : Nat → Int32} {o : mH}
set_option maxHeartbeats 2000000 in
theorem y_pair (hZ : Z.length = 70) {k s t : Nat} {x y : Int32} (hk : k < 28) (hs : s < 60) (ht : t < 60) : m_Dt l (m_EX E N xs) E mM_X9_pair (d + 1) 0 0 [.ref 70, .int (nI k), .int (nI s), .int x, .int (nI t), .int y] (Z ++ k_M th u so fz fs gt yr aK aO aT aH aW aS aL ls pl ps tp td pt en bg fa fv mt nx pL sg bo wa gv bw of o) tg (some (.int (y_pr aK aO aT aW aS k s t x y))) (Z ++ k_M th u so fz fs gt yr aK aO aT aH aW aS aL ls pl ps tp td pt en bg fa fv mt nx pL sg bo wa gv bw of o) tg := by
  have hM := mM_X9_pair_ok
  refine m_Sp_of (by decide) (Nat.le_of_ble_eq_true rfl) ?_
  refine m_J_run hM 1 rfl ⟨trivial, trivial⟩ ?_
  refine m_J_getf hM rfl rfl (kZ hZ 0 rfl) (rfl) ?_
  refine m_J_run hM 1 rfl ⟨trivial, trivial⟩ ?_
  refine m_ialdN hM rfl (kZ hZ 4 rfl) (by omega) (by omega) ?_
  refine m_J_run hM 1 rfl ⟨trivial, trivial⟩ ?_
  refine m_J_if (fun h1 => ?_) (fun h1 => ?_)
  ·
    refine m_J_run hM 1 rfl ⟨trivial, trivial⟩ ?_
    exact m_iret hM rfl rfl (rfl) (Nat.le_of_ble_eq_true rfl) (Nat.le_of_ble_eq_true rfl) (by rw [y_pr, if_neg h1]) (rfl)
  ·
    have h1 := Classical.not_not.mp h1
    refine m_J_run hM 2 rfl ⟨trivial, trivial, trivial⟩ ?_
    refine m_cS2 hM rfl kw_X9_213 (y_apart (s := s) (t := t) (by omega) (by omega)) (Nat.le_of_ble_eq_true rfl) ?_
    refine m_J_run hM 1 rfl ⟨trivial, trivial⟩ ?_
    refine m_J_getf hM rfl rfl (kZ hZ 0 rfl) (rfl) ?_
    refine m_J_run hM 1 rfl ⟨trivial, trivial⟩ ?_
    refine m_ialdN hM rfl (kZ hZ 9 rfl) (by omega) (by omega) ?_
    refine m_J_run hM 1 rfl ⟨trivial, trivial⟩ ?_
    refine m_J_if (fun h2 => ?_) (fun h2 => ?_)
    ·
      refine m_J_run hM 1 rfl ⟨trivial, trivial⟩ ?_
      refine m_J_getf hM rfl rfl (kZ hZ 0 rfl) (rfl) ?_
      refine m_J_run hM 1 rfl ⟨trivial, trivial⟩ ?_
      refine m_ialdN hM rfl (kZ hZ 5 rfl) (by omega) (by omega) ?_
      refine m_J_run hM 1 rfl ⟨trivial, trivial⟩ ?_
      refine m_J_run hM 1 rfl ⟨trivial, trivial⟩ ?_
      refine m_J_if (fun h3 => ?_) (fun h3 => ?_)
      ·
        refine m_J_run hM 2 rfl ⟨trivial, trivial, trivial⟩ ?_
        refine m_J_getf hM rfl rfl (kZ hZ 0 rfl) (rfl) ?_
        refine m_J_run hM 1 rfl ⟨trivial, trivial⟩ ?_
        refine m_ialdN hM rfl (kZ hZ 5 rfl) (by omega) (by omega) ?_
        refine m_J_run hM 1 rfl ⟨trivial, trivial⟩ ?_
        refine m_J_run hM 1 rfl ⟨trivial, trivial⟩ ?_
        refine m_J_if (fun h5 => ?_) (fun h5 => ?_)
        ·
          refine m_J_run hM 2 rfl ⟨trivial, trivial, trivial⟩ ?_
          exact m_iret hM rfl rfl (rfl) (Nat.le_of_ble_eq_true rfl) (Nat.le_of_ble_eq_true rfl) (by rw [y_pr, if_pos h1, if_pos h2, if_neg h3, if_neg h5]) (rfl)
        ·
          have h5 := Classical.not_not.mp h5
          refine m_J_run hM 1 rfl ⟨trivial, trivial⟩ ?_
          refine m_J_getf hM rfl rfl (kZ hZ 0 rfl) (rfl) ?_
          refine m_J_run hM 1 rfl ⟨trivial, trivial⟩ ?_
          refine m_ialdN hM rfl (kZ hZ 6 rfl) (by omega) (by omega) ?_
          refine m_J_run hM 1 rfl ⟨trivial, trivial⟩ ?_
          refine m_J_run hM 1 rfl ⟨trivial, trivial⟩ ?_
          refine m_J_if (fun h6 => ?_) (fun h6 => ?_)
          ·
            refine m_J_run hM 2 rfl ⟨trivial, trivial, trivial⟩ ?_
            exact m_iret hM rfl rfl (rfl) (Nat.le_of_ble_eq_true rfl) (Nat.le_of_ble_eq_true rfl) (by rw [y_pr, if_pos h1, if_pos h2, if_neg h3, if_pos h5, if_neg h6]) (rfl)
          ·
            have h6 := Classical.not_not.mp h6
            refine m_J_run hM 1 rfl ⟨trivial, trivial⟩ ?_
            refine m_J_getf hM rfl rfl (kZ hZ 0 rfl) (rfl) ?_
            refine m_J_run hM 1 rfl ⟨trivial, trivial⟩ ?_
            refine m_ialdN hM rfl (kZ hZ 8 rfl) (by omega) (by omega) ?_
            refine m_J_run hM 2 rfl ⟨trivial, trivial, trivial⟩ ?_
            exact m_iret hM rfl rfl (rfl) (Nat.le_of_ble_eq_true rfl) (Nat.le_of_ble_eq_true rfl) (by rw [y_pr, if_pos h1, if_pos h2, if_neg h3, if_pos h5, if_pos h6]) (rfl)
      ·
        have h3 := Classical.not_not.mp h3
        refine m_J_run hM 1 rfl ⟨trivial, trivial⟩ ?_
        refine m_J_getf hM rfl rfl (kZ hZ 0 rfl) (rfl) ?_
        refine m_J_run hM 1 rfl ⟨trivial, trivial⟩ ?_
        refine m_ialdN hM rfl (kZ hZ 6 rfl) (by omega) (by omega) ?_
        refine m_J_run hM 1 rfl ⟨trivial, trivial⟩ ?_
        refine m_J_run hM 1 rfl ⟨trivial, trivial⟩ ?_
        refine m_J_if (fun h4 => ?_) (fun h4 => ?_)
        ·
          refine m_J_run hM 2 rfl ⟨trivial, trivial, trivial⟩ ?_
          refine m_J_getf hM rfl rfl (kZ hZ 0 rfl) (rfl) ?_
          refine m_J_run hM 1 rfl ⟨trivial, trivial⟩ ?_
          refine m_ialdN hM rfl (kZ hZ 5 rfl) (by omega) (by omega) ?_
          refine m_J_run hM 1 rfl ⟨trivial, trivial⟩ ?_
          refine m_J_run hM 1 rfl ⟨trivial, trivial⟩ ?_
          refine m_J_if (fun h5 => ?_) (fun h5 => ?_)
          ·
            refine m_J_run hM 2 rfl ⟨trivial, trivial, trivial⟩ ?_
            exact m_iret hM rfl rfl (rfl) (Nat.le_of_ble_eq_true rfl) (Nat.le_of_ble_eq_true rfl) (by rw [y_pr, if_pos h1, if_pos h2, if_pos h3, if_neg h4, if_neg h5]) (rfl)
          ·
            have h5 := Classical.not_not.mp h5
            refine m_J_run hM 1 rfl ⟨trivial, trivial⟩ ?_
            refine m_J_getf hM rfl rfl (kZ hZ 0 rfl) (rfl) ?_
            refine m_J_run hM 1 rfl ⟨trivial, trivial⟩ ?_
            refine m_ialdN hM rfl (kZ hZ 6 rfl) (by omega) (by omega) ?_
            refine m_J_run hM 1 rfl ⟨trivial, trivial⟩ ?_
            refine m_J_run hM 1 rfl ⟨trivial, trivial⟩ ?_
            refine m_J_if (fun h6 => ?_) (fun h6 => ?_)
            ·
              refine m_J_run hM 2 rfl ⟨trivial, trivial, trivial⟩ ?_
              exact m_iret hM rfl rfl (rfl) (Nat.le_of_ble_eq_true rfl) (Nat.le_of_ble_eq_true rfl) (by rw [y_pr, if_pos h1, if_pos h2, if_pos h3, if_neg h4, if_pos h5, if_neg h6]) (rfl)
            ·
              have h6 := Classical.not_not.mp h6
              refine m_J_run hM 1 rfl ⟨trivial, trivial⟩ ?_
              refine m_J_getf hM rfl rfl (kZ hZ 0 rfl) (rfl) ?_
              refine m_J_run hM 1 rfl ⟨trivial, trivial⟩ ?_
              refine m_ialdN hM rfl (kZ hZ 8 rfl) (by omega) (by omega) ?_
              refine m_J_run hM 2 rfl ⟨trivial, trivial, trivial⟩ ?_
              exact m_iret hM rfl rfl (rfl) (Nat.le_of_ble_eq_true rfl) (Nat.le_of_ble_eq_true rfl) (by rw [y_pr, if_pos h1, if_pos h2, if_pos h3, if_neg h4, if_pos h5, if_pos h6]) (rfl)
        ·
          have h4 := Classical.not_not.mp h4
          refine m_J_run hM 1 rfl ⟨trivial, trivial⟩ ?_
          refine m_J_getf hM rfl rfl (kZ hZ 0 rfl) (rfl) ?_
          refine m_J_run hM 1 rfl ⟨trivial, trivial⟩ ?_
          refine m_ialdN hM rfl (kZ hZ 8 rfl) (by omega) (by omega) ?_
          refine m_J_run hM 2 rfl ⟨trivial, trivial, trivial⟩ ?_
          refine m_J_getf hM rfl rfl (kZ hZ 0 rfl) (rfl) ?_
          refine m_J_run hM 1 rfl ⟨trivial, trivial⟩ ?_
          refine m_ialdN hM rfl (kZ hZ 5 rfl) (by omega) (by omega) ?_
          refine m_J_run hM 1 rfl ⟨trivial, trivial⟩ ?_
          refine m_J_run hM 1 rfl ⟨trivial, trivial⟩ ?_
          refine m_J_if (fun h5 => ?_) (fun h5 => ?_)
          ·
            refine m_J_run hM 2 rfl ⟨trivial, trivial, trivial⟩ ?_
            exact m_iret hM rfl rfl (rfl) (Nat.le_of_ble_eq_true rfl) (Nat.le_of_ble_eq_true rfl) (by rw [y_pr, if_pos h1, if_pos h2, if_pos h3, if_pos h4, if_neg h5]) (rfl)
          ·
            have h5 := Classical.not_not.mp h5
            refine m_J_run hM 1 rfl ⟨trivial, trivial⟩ ?_
            refine m_J_getf hM rfl rfl (kZ hZ 0 rfl) (rfl) ?_
            refine m_J_run hM 1 rfl ⟨trivial, trivial⟩ ?_
            refine m_ialdN hM rfl (kZ hZ 6 rfl) (by omega) (by omega) ?_
            refine m_J_run hM 1 rfl ⟨trivial, trivial⟩ ?_
            refine m_J_run hM 1 rfl ⟨trivial, trivial⟩ ?_
            refine m_J_if (fun h6 => ?_) (fun h6 => ?_)
            ·
              refine m_J_run hM 2 rfl ⟨trivial, trivial, trivial⟩ ?_
              exact m_iret hM rfl rfl (rfl) (Nat.le_of_ble_eq_true rfl) (Nat.le_of_ble_eq_true rfl) (by rw [y_pr, if_pos h1, if_pos h2, if_pos h3, if_pos h4, if_pos h5, if_neg h6]) (rfl)
            ·
              have h6 := Classical.not_not.mp h6
              refine m_J_run hM 1 rfl ⟨trivial, trivial⟩ ?_
              refine m_J_getf hM rfl rfl (kZ hZ 0 rfl) (rfl) ?_
              refine m_J_run hM 1 rfl ⟨trivial, trivial⟩ ?_
              refine m_ialdN hM rfl (kZ hZ 8 rfl) (by omega) (by omega) ?_
              refine m_J_run hM 2 rfl ⟨trivial, trivial, trivial⟩ ?_
              exact m_iret hM rfl rfl (rfl) (Nat.le_of_ble_eq_true rfl) (Nat.le_of_ble_eq_true rfl) (by rw [y_pr, if_pos h1, if_pos h2, if_pos h3, if_pos h4, if_pos h5, if_pos h6]) (rfl)
    ·
      refine m_J_run hM 1 rfl ⟨trivial, trivial⟩ ?_
      exact m_iret hM rfl rfl (rfl) (Nat.le_of_ble_eq_true rfl) (Nat.le_of_ble_eq_true rfl) (by rw [y_pr, if_pos h1, if_neg h2]) (rfl)
set_option maxHeartbeats 2000000 in
theorem y_alone (hZ : Z.length = 70) {k s : Nat} {x : Int32} (hk : k < 28) (hs : s < 60) : m_Dt l (m_EX E N xs) E mM_X9_alone d 0 0 [.ref 70, .int (nI k), .int (nI s), .int x] (Z ++ k_M th u so fz fs gt yr aK aO aT aH aW aS aL ls pl ps tp td pt en bg fa fv mt nx pL sg bo wa gv bw of o) tg (some (.int (y_al aK aO aW aS so k s x))) (Z ++ k_M th u so fz fs gt yr aK aO aT aH aW aS aL ls pl ps tp td pt en bg fa fv mt nx pL sg bo wa gv bw of o) tg := by
  have hM := mM_X9_alone_ok
  refine m_Sp_of (by decide) (Nat.le_of_ble_eq_true rfl) ?_
  refine m_J_run hM 1 rfl ⟨trivial, trivial⟩ ?_
  refine m_J_getf hM rfl rfl (kZ hZ 0 rfl) (rfl) ?_
  refine m_J_run hM 1 rfl ⟨trivial, trivial⟩ ?_
  refine m_ialdN hM rfl (kZ hZ 4 rfl) (by omega) (by omega) ?_
  refine m_J_run hM 1 rfl ⟨trivial, trivial⟩ ?_
  refine m_J_run hM 1 rfl ⟨trivial, trivial⟩ ?_
  refine m_J_if (fun h1 => ?_) (fun h1 => ?_)
  ·
    refine m_J_run hM 1 rfl ⟨trivial, trivial⟩ ?_
    exact m_iret hM rfl rfl (rfl) (Nat.le_of_ble_eq_true rfl) (Nat.le_of_ble_eq_true rfl) (by rw [y_al, if_neg h1]) (rfl)
  ·
    have h1 := Classical.not_not.mp h1
    refine m_J_run hM 1 rfl ⟨trivial, trivial⟩ ?_
    refine m_J_getf hM rfl rfl (kZ hZ 0 rfl) (rfl) ?_
    refine m_J_run hM 1 rfl ⟨trivial, trivial⟩ ?_
    refine m_ialdN hM rfl (kZ hZ 5 rfl) (by omega) (by omega) ?_
    refine m_J_run hM 1 rfl ⟨trivial, trivial⟩ ?_
    refine m_J_run hM 1 rfl ⟨trivial, trivial⟩ ?_
    refine m_J_if (fun h2 => ?_) (fun h2 => ?_)
    ·
      refine m_J_run hM 1 rfl ⟨trivial, trivial⟩ ?_
      exact m_iret hM rfl rfl (rfl) (Nat.le_of_ble_eq_true rfl) (Nat.le_of_ble_eq_true rfl) (by rw [y_al, if_pos h1, if_neg h2]) (rfl)
    ·
      have h2 := Classical.not_not.mp h2
      refine m_J_run hM 1 rfl ⟨trivial, trivial⟩ ?_
      refine m_J_getf hM rfl rfl (kZ hZ 0 rfl) (rfl) ?_
      refine m_J_run hM 1 rfl ⟨trivial, trivial⟩ ?_
      refine m_ialdN hM rfl (kZ hZ 2 rfl) (by omega) (by omega) ?_
      refine m_J_run hM 1 rfl ⟨trivial, trivial⟩ ?_
      refine m_J_getf hM rfl rfl (kZ hZ 0 rfl) (rfl) ?_
      refine m_J_run hM 1 rfl ⟨trivial, trivial⟩ ?_
      refine m_ialdN hM rfl (kZ hZ 9 rfl) (by omega) (by omega) ?_
      refine m_J_run hM 1 rfl ⟨trivial, trivial⟩ ?_
      refine m_J_if (fun h3 => ?_) (fun h3 => ?_)
      ·
        refine m_J_run hM 1 rfl ⟨trivial, trivial⟩ ?_
        exact m_iret hM rfl rfl (rfl) (Nat.le_of_ble_eq_true rfl) (Nat.le_of_ble_eq_true rfl) (by rw [y_al, if_pos h1, if_pos h2, if_pos h3]) (rfl)
      ·
        refine m_J_run hM 1 rfl ⟨trivial, trivial⟩ ?_
        refine m_J_getf hM rfl rfl (kZ hZ 0 rfl) (rfl) ?_
        refine m_J_run hM 1 rfl ⟨trivial, trivial⟩ ?_
        refine m_ialdN hM rfl (kZ hZ 8 rfl) (by omega) (by omega) ?_
        refine m_J_run hM 1 rfl ⟨trivial, trivial⟩ ?_
        exact m_iret hM rfl rfl (rfl) (Nat.le_of_ble_eq_true rfl) (Nat.le_of_ble_eq_true rfl) (by rw [y_al, if_pos h1, if_pos h2, if_neg h3]) (rfl)
set_option maxHeartbeats 2000000 in
theorem y_addsOf (hZ : Z.length = 70) {k : Nat} (hk : k < 28) : m_Dt l (m_EX E N xs) E mM_X9_addsOf (d + 2) 0 0 [.ref 70, .int (nI k)] (Z ++ k_M th u so fz fs gt yr aK aO aT aH aW aS aL ls pl ps tp td pt en bg fa fv mt nx pL sg bo wa gv bw of o) tg (some (.int (y_ad aK aO aT aW aS so u k 60))) (Z ++ k_M th u so fz fs gt yr aK aO aT aH aW aS aL ls pl ps tp td pt en bg fa fv mt nx pL sg bo wa gv bw of o) tg := by
  have hM := mM_X9_addsOf_ok
  refine m_Sp_of (by decide) (Nat.le_of_ble_eq_true rfl) ?_
  refine m_J_run hM 4 rfl ⟨trivial, trivial, trivial, trivial, trivial⟩ ?_
  have LP : ∀ (n9 s : Nat) (w4 : Option Value), s + n9 = 60 → m_J l (m_EX E N xs) E mM_X9_addsOf (d + 2) 0 0 (m_K (some (.int (y_ad aK aO aT aW aS so u k 60))) (Z ++ k_M th u so fz fs gt yr aK aO aT aH aW aS aL ls pl ps tp td pt en bg fa fv mt nx pL sg bo wa gv bw of o) tg) m_no tg 0 0 (4, [some (.ref 70), some (.int (nI k)), some (.int (y_ad aK aO aT aW aS so u k s)), some (.int (nI s)), w4], [], (Z ++ k_M th u so fz fs gt yr aK aO aT aH aW aS aL ls pl ps tp td pt en bg fa fv mt nx pL sg bo wa gv bw of o)) := by
    intro n9
    induction n9 with
    | zero =>
      intro s w4 hi 
      have e9 : s = 60 := by omega
      rw [e9]
      refine m_J_run hM 3 rfl ⟨trivial, trivial, trivial, trivial⟩ ?_
      refine m_J_if (fun _ => ?_) (fun hc => absurd (nI_le (by omega) (by omega)) hc)
      refine m_J_run hM 1 rfl ⟨trivial, trivial⟩ ?_
      exact m_iret hM rfl rfl (rfl) (Nat.le_of_ble_eq_true rfl) (Nat.le_of_ble_eq_true rfl) (rfl) (rfl)
    | succ n9 ih =>
      intro s w4 hi 
      refine m_J_run hM 3 rfl ⟨trivial, trivial, trivial, trivial⟩ ?_
      refine m_J_if (fun hc => absurd hc (nI_ge (by omega) (by omega))) (fun _ => ?_)
      refine m_J_run hM 5 rfl ⟨trivial, trivial, trivial, trivial, trivial, trivial⟩ ?_
      refine m_J_getf hM rfl rfl (kZ hZ 0 rfl) (rfl) ?_
      refine m_J_run hM 1 rfl ⟨trivial, trivial⟩ ?_
      refine m_ialdN hM rfl (kZ hZ 1 rfl) (by omega) (by omega) ?_
      refine m_cV3 hZ hM rfl kw_X9_215 rfl rfl rfl (y_alone hZ (by omega) (by omega)) rfl (Nat.le_of_ble_eq_true rfl) ?_
      refine m_J_run hM 4 rfl ⟨trivial, trivial, trivial, trivial, trivial⟩ ?_
      have LQ : ∀ (m9 t : Nat), t + m9 = s → m_J l (m_EX E N xs) E mM_X9_addsOf (d + 2) 0 0 (m_K (some (.int (y_ad aK aO aT aW aS so u k 60))) (Z ++ k_M th u so fz fs gt yr aK aO aT aH aW aS aL ls pl ps tp td pt en bg fa fv mt nx pL sg bo wa gv bw of o) tg) m_no tg 0 0 (28, [some (.ref 70), some (.int (nI k)), some (.int (k_acc (y_ad aK aO aT aW aS so u k s + y_al aK aO aW aS so k s (u s)) (fun t => y_pr aK aO aT aW aS k s t (u s) (u t)) t)), some (.int (nI s)), some (.int (nI t))], [], (Z ++ k_M th u so fz fs gt yr aK aO aT aH aW aS aL ls pl ps tp td pt en bg fa fv mt nx pL sg bo wa gv bw of o)) := by
        intro m9
        induction m9 with
        | zero =>
          intro t  hj 
          have e9 : t = s := by omega
          rw [e9]
          refine m_J_run hM 3 rfl ⟨trivial, trivial, trivial, trivial⟩ ?_
          refine m_J_if (fun _ => ?_) (fun hc => absurd (nI_le (by omega) (by omega)) hc)
          refine m_J_run hM 2 rfl ⟨trivial, trivial, trivial⟩ ?_
          rw [nI_add s 1]
          have h9 := ih (s + 1) (some (.int (nI s))) (by omega)
          exact h9
        | succ m9 ih2 =>
          intro t  hj 
          refine m_J_run hM 3 rfl ⟨trivial, trivial, trivial, trivial⟩ ?_
          refine m_J_if (fun hc => absurd hc (nI_ge (by omega) (by omega))) (fun _ => ?_)
          refine m_J_run hM 5 rfl ⟨trivial, trivial, trivial, trivial, trivial, trivial⟩ ?_
          refine m_J_getf hM rfl rfl (kZ hZ 0 rfl) (rfl) ?_
          refine m_J_run hM 1 rfl ⟨trivial, trivial⟩ ?_
          refine m_ialdN hM rfl (kZ hZ 1 rfl) (by omega) (by omega) ?_
          refine m_J_run hM 2 rfl ⟨trivial, trivial, trivial⟩ ?_
          refine m_J_getf hM rfl rfl (kZ hZ 0 rfl) (rfl) ?_
          refine m_J_run hM 1 rfl ⟨trivial, trivial⟩ ?_
          refine m_ialdN hM rfl (kZ hZ 1 rfl) (by omega) (by omega) ?_
          refine m_cV5 hZ hM rfl kw_X9_219 rfl rfl rfl (y_pair hZ (by omega) (by omega) (by omega)) rfl (Nat.le_of_ble_eq_true rfl) ?_
          refine m_J_run hM 4 rfl ⟨trivial, trivial, trivial, trivial, trivial⟩ ?_
          rw [nI_add t 1]
          have h9 := ih2 (t + 1) (by omega)
          exact h9
      exact LQ s 0  (by omega)
  exact LP 60 0 _ (by omega)
set_option maxHeartbeats 2000000 in
theorem y_worthOf (hZ : Z.length = 70) (hls : ls ≤ 14) : m_Dt l (m_EX E N xs) E mM_X9_worthOf (d + 3) 0 0 [.ref 70] (Z ++ k_M th u so fz fs gt yr aK aO aT aH aW aS aL ls pl ps tp td pt en bg fa fv mt nx pL sg bo wa gv bw of o) tg (some (.int (k_sum (fun k => y_ad aK aO aT aW aS so u k 60) ls))) (Z ++ k_M th u so fz fs gt yr aK aO aT aH aW aS aL ls pl ps tp td pt en bg fa fv mt nx pL sg bo wa gv bw of o) tg := by
  have hM := mM_X9_worthOf_ok
  refine m_Sp_of (by decide) (Nat.le_of_ble_eq_true rfl) ?_
  refine m_J_run hM 4 rfl ⟨trivial, trivial, trivial, trivial, trivial⟩ ?_
  have LP : ∀ (n9 i : Nat), i + n9 = ls → m_J l (m_EX E N xs) E mM_X9_worthOf (d + 3) 0 0 (m_K (some (.int (k_sum (fun k => y_ad aK aO aT aW aS so u k 60) ls))) (Z ++ k_M th u so fz fs gt yr aK aO aT aH aW aS aL ls pl ps tp td pt en bg fa fv mt nx pL sg bo wa gv bw of o) tg) m_no tg 0 0 (4, [some (.ref 70), some (.int (k_sum (fun k => y_ad aK aO aT aW aS so u k 60) i)), some (.int (nI i))], [], (Z ++ k_M th u so fz fs gt yr aK aO aT aH aW aS aL ls pl ps tp td pt en bg fa fv mt nx pL sg bo wa gv bw of o)) := by
    intro n9
    induction n9 with
    | zero =>
      intro i  hi 
      have e9 : i = ls := by omega
      rw [e9]
      refine m_J_run hM 2 rfl ⟨trivial, trivial, trivial⟩ ?_
      refine m_J_getf hM rfl rfl (kZ hZ 0 rfl) (rfl) ?_
      refine m_J_run hM 1 rfl ⟨trivial, trivial⟩ ?_
      refine m_J_if (fun _ => ?_) (fun hc => absurd (nI_le (by omega) (by omega)) hc)
      refine m_J_run hM 1 rfl ⟨trivial, trivial⟩ ?_
      exact m_iret hM rfl rfl (rfl) (Nat.le_of_ble_eq_true rfl) (Nat.le_of_ble_eq_true rfl) (rfl) (rfl)
    | succ n9 ih =>
      intro i  hi 
      refine m_J_run hM 2 rfl ⟨trivial, trivial, trivial⟩ ?_
      refine m_J_getf hM rfl rfl (kZ hZ 0 rfl) (rfl) ?_
      refine m_J_run hM 1 rfl ⟨trivial, trivial⟩ ?_
      refine m_J_if (fun hc => absurd hc (nI_ge (by omega) (by omega))) (fun _ => ?_)
      refine m_J_run hM 3 rfl ⟨trivial, trivial, trivial, trivial⟩ ?_
      refine m_cV1 hZ hM rfl kw_X9_223 rfl rfl rfl (y_addsOf hZ (by omega)) rfl (Nat.le_of_ble_eq_true rfl) ?_
      refine m_J_run hM 4 rfl ⟨trivial, trivial, trivial, trivial, trivial⟩ ?_
      rw [nI_add i 1]
      have h9 := ih (i + 1) (by omega)
      exact h9
  exact LP ls 0  (by omega)
set_option maxHeartbeats 2000000 in
theorem y_worth (hZ : Z.length = 70) (hls : ls ≤ 14) : m_Dt l (m_EX E N xs) E mM_X9_worth (d + 4) 0 0 [.ref 70] (Z ++ k_M th u so fz fs gt yr aK aO aT aH aW aS aL ls pl ps tp td pt en bg fa fv mt nx pL sg bo wa gv bw of o) tg (some (.int (k_sum (fun k => y_ad aK aO aT aW aS so u k 60) ls))) (Z ++ k_M (nI 0) u so fz fs gt yr aK aO aT aH aW aS aL ls pl ps tp td pt en bg fa fv mt nx pL sg bo wa gv bw of o) tg := by
  have hM := mM_X9_worth_ok
  refine m_Sp_of (by decide) (Nat.le_of_ble_eq_true rfl) ?_
  refine m_J_run hM 2 rfl ⟨trivial, trivial, trivial⟩ ?_
  refine m_J_putf hM rfl rfl (kZ hZ 0 rfl) (rfl) ?_
  refine m_J_eqH (H' := (Z ++ k_M (nI 0) u so fz fs gt yr aK aO aT aH aW aS aL ls pl ps tp td pt en bg fa fv mt nx pL sg bo wa gv bw of o)) (kZs hZ 0 rfl) ?_
  refine m_J_run hM 1 rfl ⟨trivial, trivial⟩ ?_
  refine m_cV0 hZ hM rfl kw_X9_226 rfl rfl rfl (y_worthOf hZ hls) rfl (Nat.le_of_ble_eq_true rfl) ?_
  exact m_iret hM rfl rfl (rfl) (Nat.le_of_ble_eq_true rfl) (Nat.le_of_ble_eq_true rfl) (rfl) (rfl)
set_option maxHeartbeats 2000000 in
theorem y_adds (hZ : Z.length = 70) {k : Nat} (hk : k < ls) (hls : ls ≤ 14) : m_Dt l (m_EX E N xs) E mM_X9_adds (d + 3) 0 0 [.ref 70, .int (nI k)] (Z ++ k_M th u so fz fs gt yr aK aO aT aH aW aS aL ls pl ps tp td pt en bg fa fv mt nx pL sg bo wa gv bw of o) tg (some (.int (y_ad aK aO aT aW aS so u k 60))) (Z ++ k_M (nI 0) u so fz fs gt yr aK aO aT aH aW aS aL ls pl ps tp td pt en bg fa fv mt nx pL sg bo wa gv bw of o) tg := by
  have hM := mM_X9_adds_ok
  refine m_Sp_of (by decide) (Nat.le_of_ble_eq_true rfl) ?_
  refine m_J_run hM 2 rfl ⟨trivial, trivial, trivial⟩ ?_
  refine m_J_putf hM rfl rfl (kZ hZ 0 rfl) (rfl) ?_
  refine m_J_eqH (H' := (Z ++ k_M (nI 0) u so fz fs gt yr aK aO aT aH aW aS aL ls pl ps tp td pt en bg fa fv mt nx pL sg bo wa gv bw of o)) (kZs hZ 0 rfl) ?_
  refine m_J_run hM 4 rfl ⟨trivial, trivial, trivial, trivial, trivial⟩ ?_
  refine m_J_getf hM rfl rfl (kZ hZ 0 rfl) (rfl) ?_
  refine m_J_run hM 2 rfl ⟨trivial, trivial, trivial⟩ ?_
  rw [show nI ls - nI 1 = nI (ls - 1) from pk_sub (by omega)]
  refine m_cS3 hM rfl kw_X9_82 (y_in) (Nat.le_of_ble_eq_true rfl) ?_
  rw [show k_im (nI k) (nI 0) (nI (ls - 1)) = true by rw [k_imN (by omega) (by omega) (by omega)]; simp; omega]
  refine m_J_run hM 1 rfl ⟨trivial, trivial⟩ ?_
  refine m_J_if (fun _ => ?_) (fun hc => absurd (by decide) hc)
  refine m_J_run hM 2 rfl ⟨trivial, trivial, trivial⟩ ?_
  refine m_cV2 hZ hM rfl kw_X9_99 rfl rfl rfl (y_tif hZ (b := false) (x := nI 1)) rfl (Nat.le_of_ble_eq_true rfl) ?_
  refine m_J_eqH (H' := (Z ++ k_M (nI 0) u so fz fs gt yr aK aO aT aH aW aS aL ls pl ps tp td pt en bg fa fv mt nx pL sg bo wa gv bw of o)) rfl ?_
  refine m_J_run hM 1 rfl ⟨trivial, trivial⟩ ?_
  refine m_J_if (fun _ => ?_) (fun hc => absurd (by decide) hc)
  refine m_J_run hM 2 rfl ⟨trivial, trivial, trivial⟩ ?_
  refine m_cV1 hZ hM rfl kw_X9_223 rfl rfl rfl (y_addsOf hZ (by omega)) rfl (Nat.le_of_ble_eq_true rfl) ?_
  exact m_iret hM rfl rfl (rfl) (Nat.le_of_ble_eq_true rfl) (Nat.le_of_ble_eq_true rfl) (rfl) (rfl)
set_option maxHeartbeats 2000000 in
theorem y_adds_x (hZ : Z.length = 70) {x : Int32} (hx : k_im x (nI 0) (nI ls - nI 1) = false) : m_Dt l (m_EX E N xs) E mM_X9_adds (d + 3) 0 0 [.ref 70, .int x] (Z ++ k_M th u so fz fs gt yr aK aO aT aH aW aS aL ls pl ps tp td pt en bg fa fv mt nx pL sg bo wa gv bw of o) tg (some (.int (nI 0))) (Z ++ k_M (nI 1) u so fz fs gt yr aK aO aT aH aW aS aL ls pl ps tp td pt en bg fa fv mt nx pL sg bo wa gv bw of o) tg := by
  have hM := mM_X9_adds_ok
  refine m_Sp_of (by decide) (Nat.le_of_ble_eq_true rfl) ?_
  refine m_J_run hM 2 rfl ⟨trivial, trivial, trivial⟩ ?_
  refine m_J_putf hM rfl rfl (kZ hZ 0 rfl) (rfl) ?_
  refine m_J_eqH (H' := (Z ++ k_M (nI 0) u so fz fs gt yr aK aO aT aH aW aS aL ls pl ps tp td pt en bg fa fv mt nx pL sg bo wa gv bw of o)) (kZs hZ 0 rfl) ?_
  refine m_J_run hM 4 rfl ⟨trivial, trivial, trivial, trivial, trivial⟩ ?_
  refine m_J_getf hM rfl rfl (kZ hZ 0 rfl) (rfl) ?_
  refine m_J_run hM 2 rfl ⟨trivial, trivial, trivial⟩ ?_
  refine m_cS3 hM rfl kw_X9_82 (y_in) (Nat.le_of_ble_eq_true rfl) ?_
  rw [hx]
  refine m_J_run hM 1 rfl ⟨trivial, trivial⟩ ?_
  refine m_J_if (fun hc => absurd hc (by decide)) (fun _ => ?_)
  refine m_J_run hM 3 rfl ⟨trivial, trivial, trivial, trivial⟩ ?_
  refine m_cV2 hZ hM rfl kw_X9_99 rfl rfl rfl (y_tif hZ (b := true) (x := nI 1)) rfl (Nat.le_of_ble_eq_true rfl) ?_
  refine m_J_eqH (H' := (Z ++ k_M (nI 1) u so fz fs gt yr aK aO aT aH aW aS aL ls pl ps tp td pt en bg fa fv mt nx pL sg bo wa gv bw of o)) rfl ?_
  refine m_J_run hM 1 rfl ⟨trivial, trivial⟩ ?_
  refine m_J_if (fun hc => absurd hc (by decide)) (fun _ => ?_)
  refine m_J_run hM 2 rfl ⟨trivial, trivial, trivial⟩ ?_
  exact m_iret hM rfl rfl (rfl) (Nat.le_of_ble_eq_true rfl) (Nat.le_of_ble_eq_true rfl) (rfl) (rfl)
set_option maxHeartbeats 2000000 in
theorem y_isLaw (hZ : Z.length = 70) {k : Nat} (hk : k < 28) : m_Dt l (m_EX E N xs) E mM_X9_isLaw (d + 1) 0 0 [.ref 70, .int (nI k)] (Z ++ k_M th u so fz fs gt yr aK aO aT aH aW aS aL ls pl ps tp td pt en bg fa fv mt nx pL sg bo wa gv bw of o) tg (some (.int (k_z (y_isl aK k)))) (Z ++ k_M th u so fz fs gt yr aK aO aT aH aW aS aL ls pl ps tp td pt en bg fa fv mt nx pL sg bo wa gv bw of o) tg := by
  have hM := mM_X9_isLaw_ok
  refine m_Sp_of (by decide) (Nat.le_of_ble_eq_true rfl) ?_
  refine m_J_run hM 1 rfl ⟨trivial, trivial⟩ ?_
  refine m_J_getf hM rfl rfl (kZ hZ 0 rfl) (rfl) ?_
  refine m_J_run hM 1 rfl ⟨trivial, trivial⟩ ?_
  refine m_ialdN hM rfl (kZ hZ 4 rfl) (by omega) (by omega) ?_
  refine m_J_run hM 2 rfl ⟨trivial, trivial, trivial⟩ ?_
  refine m_cS3 hM rfl kw_X9_82 (y_in) (Nat.le_of_ble_eq_true rfl) ?_
  exact m_iret hM rfl rfl (k_z_nar _) (Nat.le_of_ble_eq_true rfl) (Nat.le_of_ble_eq_true rfl) (rfl) (rfl)
set_option maxHeartbeats 2000000 in
theorem y_count (hZ : Z.length = 70) {x : Int32} : m_Dt l (m_EX E N xs) E mM_X9_countOf d 0 0 [.ref 70, .int x] (Z ++ k_M th u so fz fs gt yr aK aO aT aH aW aS aL ls pl ps tp td pt en bg fa fv mt nx pL sg bo wa gv bw of o) tg (some (.int (nI (y_cnt u x 60)))) (Z ++ k_M th u so fz fs gt yr aK aO aT aH aW aS aL ls pl ps tp td pt en bg fa fv mt nx pL sg bo wa gv bw of o) tg := by
  have hM := mM_X9_countOf_ok
  refine m_Sp_of (by decide) (Nat.le_of_ble_eq_true rfl) ?_
  refine m_J_run hM 4 rfl ⟨trivial, trivial, trivial, trivial, trivial⟩ ?_
  have LP : ∀ (n9 s : Nat), s + n9 = 60 → m_J l (m_EX E N xs) E mM_X9_countOf d 0 0 (m_K (some (.int (nI (y_cnt u x 60)))) (Z ++ k_M th u so fz fs gt yr aK aO aT aH aW aS aL ls pl ps tp td pt en bg fa fv mt nx pL sg bo wa gv bw of o) tg) m_no tg 0 0 (4, [some (.ref 70), some (.int x), some (.int (nI (y_cnt u x s))), some (.int (nI s))], [], (Z ++ k_M th u so fz fs gt yr aK aO aT aH aW aS aL ls pl ps tp td pt en bg fa fv mt nx pL sg bo wa gv bw of o)) := by
    intro n9
    induction n9 with
    | zero =>
      intro s  hi 
      have e9 : s = 60 := by omega
      rw [e9]
      refine m_J_run hM 3 rfl ⟨trivial, trivial, trivial, trivial⟩ ?_
      refine m_J_if (fun _ => ?_) (fun hc => absurd (nI_le (by omega) (by omega)) hc)
      refine m_J_run hM 1 rfl ⟨trivial, trivial⟩ ?_
      exact m_iret hM rfl rfl (rfl) (Nat.le_of_ble_eq_true rfl) (Nat.le_of_ble_eq_true rfl) (rfl) (rfl)
    | succ n9 ih =>
      intro s  hi 
      refine m_J_run hM 3 rfl ⟨trivial, trivial, trivial, trivial⟩ ?_
      refine m_J_if (fun hc => absurd hc (nI_ge (by omega) (by omega))) (fun _ => ?_)
      refine m_J_run hM 2 rfl ⟨trivial, trivial, trivial⟩ ?_
      refine m_J_getf hM rfl rfl (kZ hZ 0 rfl) (rfl) ?_
      refine m_J_run hM 1 rfl ⟨trivial, trivial⟩ ?_
      refine m_ialdN hM rfl (kZ hZ 1 rfl) (by omega) (by omega) ?_
      refine m_J_run hM 1 rfl ⟨trivial, trivial⟩ ?_
      refine m_J_run hM 1 rfl ⟨trivial, trivial⟩ ?_
      refine m_J_if (fun h1 => ?_) (fun h1 => ?_)
      ·
        refine m_J_run hM 5 rfl ⟨trivial, trivial, trivial, trivial, trivial, trivial⟩ ?_
        rw [nI_add (y_cnt u x s) 0, nI_add s 1]
        have h9 := ih (s + 1) (by omega)
        rw [show y_cnt u x (s + 1) = (y_cnt u x s) + 0 by rw [y_cnt, if_neg h1]] at h9
        exact h9
      ·
        have h1 := Classical.not_not.mp h1
        refine m_J_run hM 6 rfl ⟨trivial, trivial, trivial, trivial, trivial, trivial, trivial⟩ ?_
        rw [nI_add (y_cnt u x s) 1, nI_add s 1]
        have h9 := ih (s + 1) (by omega)
        rw [show y_cnt u x (s + 1) = (y_cnt u x s) + 1 by rw [y_cnt, if_pos h1]] at h9
        exact h9
  exact LP 60 0  (by omega)
set_option maxHeartbeats 2000000 in
theorem y_areApart (hZ : Z.length = 70) {k : Nat} (hk : k < 28) : m_Dt l (m_EX E N xs) E mM_X9_areApart (d + 1) 0 0 [.ref 70, .int (nI k)] (Z ++ k_M th u so fz fs gt yr aK aO aT aH aW aS aL ls pl ps tp td pt en bg fa fv mt nx pL sg bo wa gv bw of o) tg (some (.int (k_z (y_apb aO aT aS u k)))) (Z ++ k_M th u so fz fs gt yr aK aO aT aH aW aS aL ls pl ps tp td pt en bg fa fv mt nx pL sg bo wa gv bw of o) tg := by
  have hM := mM_X9_areApart_ok
  refine m_Sp_of (by decide) (Nat.le_of_ble_eq_true rfl) ?_
  refine m_J_run hM 2 rfl ⟨trivial, trivial, trivial⟩ ?_
  have LP : ∀ (n9 s : Nat) (w3 : Option Value), s + n9 = 60 → k_all (fun s => k_all (fun t => y_apq aO aT aS u k s t) 60) s = true → m_J l (m_EX E N xs) E mM_X9_areApart (d + 1) 0 0 (m_K (some (.int (k_z (y_apb aO aT aS u k)))) (Z ++ k_M th u so fz fs gt yr aK aO aT aH aW aS aL ls pl ps tp td pt en bg fa fv mt nx pL sg bo wa gv bw of o) tg) m_no tg 0 0 (2, [some (.ref 70), some (.int (nI k)), some (.int (nI s)), w3], [], (Z ++ k_M th u so fz fs gt yr aK aO aT aH aW aS aL ls pl ps tp td pt en bg fa fv mt nx pL sg bo wa gv bw of o)) := by
    intro n9
    induction n9 with
    | zero =>
      intro s w3 hi h0
      have e9 : s = 60 := by omega
      rw [e9] at h0 ⊢
      refine m_J_run hM 3 rfl ⟨trivial, trivial, trivial, trivial⟩ ?_
      refine m_J_if (fun _ => ?_) (fun hc => absurd (nI_le (by omega) (by omega)) hc)
      refine m_J_run hM 1 rfl ⟨trivial, trivial⟩ ?_
      exact m_iret hM rfl rfl (by decide) (Nat.le_of_ble_eq_true rfl) (Nat.le_of_ble_eq_true rfl) (by rw [y_apb, h0]; rfl) (rfl)
    | succ n9 ih =>
      intro s w3 hi h0
      refine m_J_run hM 3 rfl ⟨trivial, trivial, trivial, trivial⟩ ?_
      refine m_J_if (fun hc => absurd hc (nI_ge (by omega) (by omega))) (fun _ => ?_)
      refine m_J_run hM 2 rfl ⟨trivial, trivial, trivial⟩ ?_
      have LQ : ∀ (m9 t : Nat), t + m9 = 60 → k_all (y_apq aO aT aS u k s) t = true → m_J l (m_EX E N xs) E mM_X9_areApart (d + 1) 0 0 (m_K (some (.int (k_z (y_apb aO aT aS u k)))) (Z ++ k_M th u so fz fs gt yr aK aO aT aH aW aS aL ls pl ps tp td pt en bg fa fv mt nx pL sg bo wa gv bw of o) tg) m_no tg 0 0 (10, [some (.ref 70), some (.int (nI k)), some (.int (nI s)), some (.int (nI t))], [], (Z ++ k_M th u so fz fs gt yr aK aO aT aH aW aS aL ls pl ps tp td pt en bg fa fv mt nx pL sg bo wa gv bw of o)) := by
        intro m9
        induction m9 with
        | zero =>
          intro t  hj h4
          have e9 : t = 60 := by omega
          rw [e9] at h4 ⊢
          refine m_J_run hM 3 rfl ⟨trivial, trivial, trivial, trivial⟩ ?_
          refine m_J_if (fun _ => ?_) (fun hc => absurd (nI_le (by omega) (by omega)) hc)
          refine m_J_run hM 2 rfl ⟨trivial, trivial, trivial⟩ ?_
          rw [nI_add s 1]
          have h9 := ih (s + 1) (some (.int (nI 60))) (by omega) (by rw [k_all, h0, Bool.true_and]; exact h4)
          exact h9
        | succ m9 ih2 =>
          intro t  hj h4
          refine m_J_run hM 3 rfl ⟨trivial, trivial, trivial, trivial⟩ ?_
          refine m_J_if (fun hc => absurd hc (nI_ge (by omega) (by omega))) (fun _ => ?_)
          refine m_J_run hM 2 rfl ⟨trivial, trivial, trivial⟩ ?_
          refine m_J_run hM 1 rfl ⟨trivial, trivial⟩ ?_
          refine m_J_if (fun h5 => ?_) (fun h5 => ?_)
          ·
            rw [nI_eq (by omega) (by omega)] at h5
            refine m_J_run hM 2 rfl ⟨trivial, trivial, trivial⟩ ?_
            rw [nI_add t 1]
            have h9 := ih2 (t + 1) (by omega) (by rw [k_all, h4, Bool.true_and, y_apq, Bool.not_eq_true', decide_eq_false_iff_not]; exact fun q => q.1 h5)
            exact h9
          ·
            rw [nI_eq (by omega) (by omega)] at h5
            refine m_J_run hM 1 rfl ⟨trivial, trivial⟩ ?_
            refine m_J_getf hM rfl rfl (kZ hZ 0 rfl) (rfl) ?_
            refine m_J_run hM 1 rfl ⟨trivial, trivial⟩ ?_
            refine m_ialdN hM rfl (kZ hZ 1 rfl) (by omega) (by omega) ?_
            refine m_J_run hM 1 rfl ⟨trivial, trivial⟩ ?_
            refine m_J_getf hM rfl rfl (kZ hZ 0 rfl) (rfl) ?_
            refine m_J_run hM 1 rfl ⟨trivial, trivial⟩ ?_
            refine m_ialdN hM rfl (kZ hZ 5 rfl) (by omega) (by omega) ?_
            refine m_J_run hM 1 rfl ⟨trivial, trivial⟩ ?_
            refine m_J_if (fun h6 => ?_) (fun h6 => ?_)
            ·
              refine m_J_run hM 2 rfl ⟨trivial, trivial, trivial⟩ ?_
              rw [nI_add t 1]
              have h9 := ih2 (t + 1) (by omega) (by rw [k_all, h4, Bool.true_and, y_apq, Bool.not_eq_true', decide_eq_false_iff_not]; exact fun q => h6 q.2.1)
              exact h9
            ·
              have h6 := Classical.not_not.mp h6
              refine m_J_run hM 1 rfl ⟨trivial, trivial⟩ ?_
              refine m_J_getf hM rfl rfl (kZ hZ 0 rfl) (rfl) ?_
              refine m_J_run hM 1 rfl ⟨trivial, trivial⟩ ?_
              refine m_ialdN hM rfl (kZ hZ 1 rfl) (by omega) (by omega) ?_
              refine m_J_run hM 1 rfl ⟨trivial, trivial⟩ ?_
              refine m_J_getf hM rfl rfl (kZ hZ 0 rfl) (rfl) ?_
              refine m_J_run hM 1 rfl ⟨trivial, trivial⟩ ?_
              refine m_ialdN hM rfl (kZ hZ 6 rfl) (by omega) (by omega) ?_
              refine m_J_run hM 1 rfl ⟨trivial, trivial⟩ ?_
              refine m_J_if (fun h7 => ?_) (fun h7 => ?_)
              ·
                refine m_J_run hM 2 rfl ⟨trivial, trivial, trivial⟩ ?_
                rw [nI_add t 1]
                have h9 := ih2 (t + 1) (by omega) (by rw [k_all, h4, Bool.true_and, y_apq, Bool.not_eq_true', decide_eq_false_iff_not]; exact fun q => h7 q.2.2.1)
                exact h9
              ·
                have h7 := Classical.not_not.mp h7
                refine m_J_run hM 2 rfl ⟨trivial, trivial, trivial⟩ ?_
                refine m_cS2 hM rfl kw_X9_213 (y_apart (s := s) (t := t) (by omega) (by omega)) (Nat.le_of_ble_eq_true rfl) ?_
                refine m_J_run hM 1 rfl ⟨trivial, trivial⟩ ?_
                refine m_J_getf hM rfl rfl (kZ hZ 0 rfl) (rfl) ?_
                refine m_J_run hM 1 rfl ⟨trivial, trivial⟩ ?_
                refine m_ialdN hM rfl (kZ hZ 9 rfl) (by omega) (by omega) ?_
                refine m_J_run hM 1 rfl ⟨trivial, trivial⟩ ?_
                refine m_J_if (fun h8 => ?_) (fun h8 => ?_)
                ·
                  refine m_J_run hM 2 rfl ⟨trivial, trivial, trivial⟩ ?_
                  rw [nI_add t 1]
                  have h9 := ih2 (t + 1) (by omega) (by rw [k_all, h4, Bool.true_and, y_apq, Bool.not_eq_true', decide_eq_false_iff_not]; exact fun q => q.2.2.2 h8)
                  exact h9
                ·
                  refine m_J_run hM 1 rfl ⟨trivial, trivial⟩ ?_
                  exact m_iret hM rfl rfl (by decide) (Nat.le_of_ble_eq_true rfl) (Nat.le_of_ble_eq_true rfl) (by rw [show y_apb aO aT aS u k = false from k_all_f (i := s) (by omega) (k_all_f (i := t) (by omega) (by rw [y_apq, Bool.not_eq_false', decide_eq_true_eq]; exact ⟨h5, h6, h7, h8⟩))]; rfl) (rfl)
      exact LQ 60 0  (by omega) rfl
  exact LP 60 0 _ (by omega) rfl
set_option maxHeartbeats 2000000 in
theorem y_fault (hZ : Z.length = 70)  : m_Dt l (m_EX E N xs) E mM_X9_fault d 0 0 [.ref 70] (Z ++ k_M th u so fz fs gt yr aK aO aT aH aW aS aL ls pl ps tp td pt en bg fa fv mt nx pL sg bo wa gv bw of o) tg (some (.int fa)) (Z ++ k_M (nI 0) u so fz fs gt yr aK aO aT aH aW aS aL ls pl ps tp td pt en bg fa fv mt nx pL sg bo wa gv bw of o) tg := by
  have hM := mM_X9_fault_ok
  refine m_Sp_of (by decide) (Nat.le_of_ble_eq_true rfl) ?_
  refine m_J_run hM 2 rfl ⟨trivial, trivial, trivial⟩ ?_
  refine m_J_putf hM rfl rfl (kZ hZ 0 rfl) (rfl) ?_
  refine m_J_eqH (H' := (Z ++ k_M (nI 0) u so fz fs gt yr aK aO aT aH aW aS aL ls pl ps tp td pt en bg fa fv mt nx pL sg bo wa gv bw of o)) (kZs hZ 0 rfl) ?_
  refine m_J_run hM 1 rfl ⟨trivial, trivial⟩ ?_
  refine m_J_getf hM rfl rfl (kZ hZ 0 rfl) (rfl) ?_
  exact m_iret hM rfl rfl (rfl) (Nat.le_of_ble_eq_true rfl) (Nat.le_of_ble_eq_true rfl) (rfl) (rfl)
end
