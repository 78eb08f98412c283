/-! THE MODEL: look, plans, count, feed, growth (written by wip/gen_model4.py) -/
theorem k_on_n : k_on none = -nI 1 := rfl
theorem k_on_s {t : Nat} : k_on (some t) = nI t := rfl
theorem k_bd_lt {s w t : Nat} (hs : s < 60) (h : k_bd s w = some t) : t < 60 := by
  unfold k_bd at h
  split at h <;> split at h <;> first | (cases h; omega) | cases h
theorem k_uu (f : Nat → Int32) (k : Nat) (a b : Int32) : upd (upd f k a) k b = upd f k b := by
  funext j
  by_cases h : j = k <;> simp [upd, h]
def y_lkb (u : Nat → Int32) (s w : Nat) : Bool := (k_bd s w).elim false (fun t => decide (u t = u s))
def y_lk (u : Nat → Int32) (s : Nat) : Nat → Nat
  | 0 => 0
  | w + 1 => y_lk u s w + (if y_lkb u s w then 1 else 0)
def y_kp (pl u : Nat → Int32) (p : Nat) : Nat → (Nat → Int32)
  | 0 => pl
  | n + 1 => upd (y_kp pl u p n) (60 * p + n) (u n)
def y_ui (u pl : Nat → Int32) (a : Option Nat) (s : Nat) : Int32 := a.elim (u s) (fun i => pl (60 * i + s))
def y_df (f g : Nat → Int32) : Nat → Nat
  | 0 => 0
  | n + 1 => y_df f g n + (if f n = g n then 0 else 1)
def y_lws (aK : Nat → Int32) : Nat → Nat
  | 0 => 0
  | n + 1 => y_lws aK n + (if y_isl aK n then 1 else 0)
def y_fd (tp : Nat → Int32) (td : Nat) (fv : Nat → Int32) : Nat → (Nat → Int32)
  | 0 => tp
  | n + 1 => upd (y_fd tp td fv n) (td + n) (k_by (fv (n / 4)) (n % 4))
def y_f5 (fv : Nat → Int32) (a b c x e : Int32) : Nat → Int32 := upd (upd (upd (upd (upd fv 0 a) 1 b) 2 c) 3 x) 4 e
def y_gc (aH aS u : Nat → Int32) (k s : Nat) : Nat → Nat
  | 0 => 0
  | n + 1 => y_gc aH aS u k s n + (if n = s then 0 else if u n = aH k then (if aS k < nI (k_apN s n) then 0 else 1) else 0)
def y_gr (aK aO aH aS aL u : Nat → Int32) (k s : Nat) : Bool := decide (aK k = nI 6 ∧ u s = aO k ∧ ¬ nI (y_gc aH aS u k s 60) < aL k)
/-- the lines from the last one down: what the square becomes -/
def y_nv (p : Nat → Bool) (v : Nat → Int32) (x : Int32) (n : Nat) : Nat → Int32
  | 0 => x
  | m + 1 => if p (n - m - 1) then v (n - m - 1) else y_nv p v x n m
def y_ny (aK aO aT aH aS aL : Nat → Int32) (ls : Nat) (u : Nat → Int32) (s : Nat) : Int32 := y_nv (fun k => y_gr aK aO aH aS aL u k s) aT (u s) ls ls
def y_ys (aK aO aT aH aS aL : Nat → Int32) (ls : Nat) (u nx : Nat → Int32) : Nat → (Nat → Int32) × (Nat → Int32)
  | 0 => (u, nx)
  | n + 1 => (k_upto (y_ny aK aO aT aH aS aL ls (y_ys aK aO aT aH aS aL ls u nx n).1) (y_ys aK aO aT aH aS aL ls u nx n).1 60, k_upto (y_ny aK aO aT aH aS aL ls (y_ys aK aO aT aH aS aL ls u nx n).1) (y_ys aK aO aT aH aS aL ls u nx n).2 60)
theorem k_upto_2 (g f u : Nat → Int32) (i : Nat) : k_upto (k_upto g f i) u i = k_upto g u i := by
  funext j
  unfold k_upto
  by_cases h : j < i <;> simp [h]
section
variable {l : Launch} {E : mE} {N : Nat} {xs : Nat → Int32} {d : Nat} {tg : Bool} {Z : mH} {h : mH}
variable {th : Int32} {u : Nat → Int32} {so : Nat → Int32} {fz : Nat → Bool} {fs : Nat} {gt : Nat} {yr : Nat} {aK : Nat → Int32} {aO : Nat → Int32} {aT : Nat → Int32} {aH : Nat → Int32} {aW : Nat → Int32} {aS : Nat → Int32} {aL : Nat → Int32} {ls : Nat} {pl : Nat → Int32} {ps : Nat} {tp : Nat → Int32} {td : Nat} {pt : Nat} {en : Nat} {bg : Nat} {fa : Int32} {fv : Nat → Int32} {mt : Nat → Bool} {nx : Nat → Int32} {pL : Nat → Nat} {sg : Nat → Int32} {bo : Nat → Int32} {wa : Nat → Int32} {gv : Nat → Int32} {bw : Int32} {of : Nat → Int32} {o : mH}
set_option maxHeartbeats 2000000 in
theorem y_look_0 (hZ : Z.length = 70) {a : Nat} (ha : a < 60) : m_Dt l (m_EX E N xs) E mM_X9_look (d + 2) 0 0 [.ref 70, .int (nI a), .int (nI 0)] (Z ++ k_M th u so fz fs gt yr aK aO aT aH aW aS aL ls pl ps tp td pt en bg fa fv mt nx pL sg bo wa gv bw of o) tg (some (.int (u a))) (Z ++ k_M (nI 0) u so fz fs gt yr aK aO aT aH aW aS aL ls pl ps tp td pt en bg fa fv mt nx pL sg bo wa gv bw of o) tg := by
  have hM := mM_X9_look_ok
  refine m_Sp_of (by decide) (Nat.le_of_ble_eq_true rfl) ?_
  refine m_J_run hM 2 rfl ⟨trivial, trivial, trivial⟩ ?_
  refine m_J_putf hM rfl rfl (kZ hZ 0 rfl) (rfl) ?_
  refine m_J_eqH (H' := (Z ++ k_M (nI 0) u so fz fs gt yr aK aO aT aH aW aS aL ls pl ps tp td pt en bg fa fv mt nx pL sg bo wa gv bw of o)) (kZs hZ 0 rfl) ?_
  refine m_J_run hM 2 rfl ⟨trivial, trivial, trivial⟩ ?_
  refine m_cS1 hM rfl kw_X9_95 (y_nq) (Nat.le_of_ble_eq_true rfl) ?_
  rw [k_nq_ok ha]
  refine m_J_run hM 1 rfl ⟨trivial, trivial⟩ ?_
  refine m_cV2 hZ hM rfl kw_X9_99 rfl rfl rfl (y_tif hZ (b := false) (x := nI 1)) rfl (Nat.le_of_ble_eq_true rfl) ?_
  refine m_J_eqH (H' := (Z ++ k_M (nI 0) u so fz fs gt yr aK aO aT aH aW aS aL ls pl ps tp td pt en bg fa fv mt nx pL sg bo wa gv bw of o)) rfl ?_
  refine m_J_run hM 1 rfl ⟨trivial, trivial⟩ ?_
  refine m_J_if (fun _ => ?_) (fun hc => absurd (by decide) hc)
  refine m_J_run hM 1 rfl ⟨trivial, trivial⟩ ?_
  refine m_J_run hM 1 rfl ⟨by decide, trivial⟩ ?_
  refine m_J_run hM 1 rfl ⟨trivial, trivial⟩ ?_
  refine m_J_getf hM rfl rfl (kZ hZ 0 rfl) (rfl) ?_
  refine m_J_run hM 1 rfl ⟨trivial, trivial⟩ ?_
  refine m_ialdN hM rfl (kZ hZ 1 rfl) (by omega) (by omega) ?_
  exact m_iret hM rfl rfl (rfl) (Nat.le_of_ble_eq_true rfl) (Nat.le_of_ble_eq_true rfl) (rfl) (rfl)
set_option maxHeartbeats 2000000 in
theorem y_look_1 (hZ : Z.length = 70) {a : Nat} (ha : a < 60) : m_Dt l (m_EX E N xs) E mM_X9_look (d + 2) 0 0 [.ref 70, .int (nI a), .int (nI 1)] (Z ++ k_M th u so fz fs gt yr aK aO aT aH aW aS aL ls pl ps tp td pt en bg fa fv mt nx pL sg bo wa gv bw of o) tg (some (.int (so a))) (Z ++ k_M (nI 0) u so fz fs gt yr aK aO aT aH aW aS aL ls pl ps tp td pt en bg fa fv mt nx pL sg bo wa gv bw of o) tg := by
  have hM := mM_X9_look_ok
  refine m_Sp_of (by decide) (Nat.le_of_ble_eq_true rfl) ?_
  refine m_J_run hM 2 rfl ⟨trivial, trivial, trivial⟩ ?_
  refine m_J_putf hM rfl rfl (kZ hZ 0 rfl) (rfl) ?_
  refine m_J_eqH (H' := (Z ++ k_M (nI 0) u so fz fs gt yr aK aO aT aH aW aS aL ls pl ps tp td pt en bg fa fv mt nx pL sg bo wa gv bw of o)) (kZs hZ 0 rfl) ?_
  refine m_J_run hM 2 rfl ⟨trivial, trivial, trivial⟩ ?_
  refine m_cS1 hM rfl kw_X9_95 (y_nq) (Nat.le_of_ble_eq_true rfl) ?_
  rw [k_nq_ok ha]
  refine m_J_run hM 1 rfl ⟨trivial, trivial⟩ ?_
  refine m_cV2 hZ hM rfl kw_X9_99 rfl rfl rfl (y_tif hZ (b := false) (x := nI 1)) rfl (Nat.le_of_ble_eq_true rfl) ?_
  refine m_J_eqH (H' := (Z ++ k_M (nI 0) u so fz fs gt yr aK aO aT aH aW aS aL ls pl ps tp td pt en bg fa fv mt nx pL sg bo wa gv bw of o)) rfl ?_
  refine m_J_run hM 1 rfl ⟨trivial, trivial⟩ ?_
  refine m_J_if (fun _ => ?_) (fun hc => absurd (by decide) hc)
  refine m_J_run hM 1 rfl ⟨trivial, trivial⟩ ?_
  refine m_J_run hM 1 rfl ⟨by decide, trivial⟩ ?_
  refine m_J_run hM 1 rfl ⟨trivial, trivial⟩ ?_
  refine m_J_getf hM rfl rfl (kZ hZ 0 rfl) (rfl) ?_
  refine m_J_run hM 1 rfl ⟨trivial, trivial⟩ ?_
  refine m_ialdN hM rfl (kZ hZ 2 rfl) (by omega) (by omega) ?_
  exact m_iret hM rfl rfl (rfl) (Nat.le_of_ble_eq_true rfl) (Nat.le_of_ble_eq_true rfl) (rfl) (rfl)
set_option maxHeartbeats 2000000 in
theorem y_look_2 (hZ : Z.length = 70) {a : Nat} (ha : a < 60) : m_Dt l (m_EX E N xs) E mM_X9_look (d + 2) 0 0 [.ref 70, .int (nI a), .int (nI 2)] (Z ++ k_M th u so fz fs gt yr aK aO aT aH aW aS aL ls pl ps tp td pt en bg fa fv mt nx pL sg bo wa gv bw of o) tg (some (.int (k_z (fz a)))) (Z ++ k_M (nI 0) u so fz fs gt yr aK aO aT aH aW aS aL ls pl ps tp td pt en bg fa fv mt nx pL sg bo wa gv bw of o) tg := by
  have hM := mM_X9_look_ok
  refine m_Sp_of (by decide) (Nat.le_of_ble_eq_true rfl) ?_
  refine m_J_run hM 2 rfl ⟨trivial, trivial, trivial⟩ ?_
  refine m_J_putf hM rfl rfl (kZ hZ 0 rfl) (rfl) ?_
  refine m_J_eqH (H' := (Z ++ k_M (nI 0) u so fz fs gt yr aK aO aT aH aW aS aL ls pl ps tp td pt en bg fa fv mt nx pL sg bo wa gv bw of o)) (kZs hZ 0 rfl) ?_
  refine m_J_run hM 2 rfl ⟨trivial, trivial, trivial⟩ ?_
  refine m_cS1 hM rfl kw_X9_95 (y_nq) (Nat.le_of_ble_eq_true rfl) ?_
  rw [k_nq_ok ha]
  refine m_J_run hM 1 rfl ⟨trivial, trivial⟩ ?_
  refine m_cV2 hZ hM rfl kw_X9_99 rfl rfl rfl (y_tif hZ (b := false) (x := nI 1)) rfl (Nat.le_of_ble_eq_true rfl) ?_
  refine m_J_eqH (H' := (Z ++ k_M (nI 0) u so fz fs gt yr aK aO aT aH aW aS aL ls pl ps tp td pt en bg fa fv mt nx pL sg bo wa gv bw of o)) rfl ?_
  refine m_J_run hM 1 rfl ⟨trivial, trivial⟩ ?_
  refine m_J_if (fun _ => ?_) (fun hc => absurd (by decide) hc)
  refine m_J_run hM 1 rfl ⟨trivial, trivial⟩ ?_
  refine m_J_run hM 1 rfl ⟨by decide, trivial⟩ ?_
  refine m_J_run hM 1 rfl ⟨trivial, trivial⟩ ?_
  refine m_J_getf hM rfl rfl (kZ hZ 0 rfl) (rfl) ?_
  refine m_J_run hM 1 rfl ⟨trivial, trivial⟩ ?_
  refine m_zaldN hM rfl (kZ hZ 3 rfl) (by omega) (by omega) ?_
  cases hb : fz a with
  | false =>
    refine m_J_run hM 1 rfl ⟨trivial, trivial⟩ ?_
    refine m_J_if (fun _ => ?_) (fun hc => absurd (by decide) hc)
    refine m_J_run hM 1 rfl ⟨trivial, trivial⟩ ?_
    exact m_iret hM rfl rfl (rfl) (Nat.le_of_ble_eq_true rfl) (Nat.le_of_ble_eq_true rfl) (by rfl) (rfl)
  | true =>
    refine m_J_run hM 1 rfl ⟨trivial, trivial⟩ ?_
    refine m_J_if (fun hc => absurd hc (by decide)) (fun _ => ?_)
    refine m_J_run hM 2 rfl ⟨trivial, trivial, trivial⟩ ?_
    exact m_iret hM rfl rfl (rfl) (Nat.le_of_ble_eq_true rfl) (Nat.le_of_ble_eq_true rfl) (by rfl) (rfl)
set_option maxHeartbeats 2000000 in
theorem y_look_3 (hZ : Z.length = 70) {a : Nat} (ha : a < 60) : m_Dt l (m_EX E N xs) E mM_X9_look (d + 2) 0 0 [.ref 70, .int (nI a), .int (nI 3)] (Z ++ k_M th u so fz fs gt yr aK aO aT aH aW aS aL ls pl ps tp td pt en bg fa fv mt nx pL sg bo wa gv bw of o) tg (some (.int (nI (y_lk u a 4)))) (Z ++ k_M (nI 0) u so fz fs gt yr aK aO aT aH aW aS aL ls pl ps tp td pt en bg fa fv mt nx pL sg bo wa gv bw of o) tg := by
  have hM := mM_X9_look_ok
  refine m_Sp_of (by decide) (Nat.le_of_ble_eq_true rfl) ?_
  refine m_J_run hM 2 rfl ⟨trivial, trivial, trivial⟩ ?_
  refine m_J_putf hM rfl rfl (kZ hZ 0 rfl) (rfl) ?_
  refine m_J_eqH (H' := (Z ++ k_M (nI 0) u so fz fs gt yr aK aO aT aH aW aS aL ls pl ps tp td pt en bg fa fv mt nx pL sg bo wa gv bw of o)) (kZs hZ 0 rfl) ?_
  refine m_J_run hM 2 rfl ⟨trivial, trivial, trivial⟩ ?_
  refine m_cS1 hM rfl kw_X9_95 (y_nq) (Nat.le_of_ble_eq_true rfl) ?_
  rw [k_nq_ok ha]
  refine m_J_run hM 1 rfl ⟨trivial, trivial⟩ ?_
  refine m_cV2 hZ hM rfl kw_X9_99 rfl rfl rfl (y_tif hZ (b := false) (x := nI 1)) rfl (Nat.le_of_ble_eq_true rfl) ?_
  refine m_J_eqH (H' := (Z ++ k_M (nI 0) u so fz fs gt yr aK aO aT aH aW aS aL ls pl ps tp td pt en bg fa fv mt nx pL sg bo wa gv bw of o)) rfl ?_
  refine m_J_run hM 1 rfl ⟨trivial, trivial⟩ ?_
  refine m_J_if (fun _ => ?_) (fun hc => absurd (by decide) hc)
  refine m_J_run hM 1 rfl ⟨trivial, trivial⟩ ?_
  refine m_J_run hM 1 rfl ⟨by decide, trivial⟩ ?_
  refine m_J_run hM 4 rfl ⟨trivial, trivial, trivial, trivial, trivial⟩ ?_
  have LP : ∀ (n9 w : Nat), w + n9 = 4 → m_J l (m_EX E N xs) E mM_X9_look (d + 2) 0 0 (m_K (some (.int (nI (y_lk u a 4)))) (Z ++ k_M (nI 0) u so fz fs gt yr aK aO aT aH aW aS aL ls pl ps tp td pt en bg fa fv mt nx pL sg bo wa gv bw of o) tg) m_no tg 0 0 (86, [some (.ref 70), some (.int (nI a)), some (.int (nI 3)), some (.int (nI (y_lk u a w))), some (.int (nI w))], [], (Z ++ k_M (nI 0) u so fz fs gt yr aK aO aT aH aW aS aL ls pl ps tp td pt en bg fa fv mt nx pL sg bo wa gv bw of o)) := by
    intro n9
    induction n9 with
    | zero =>
      intro w  hi 
      have e9 : w = 4 := by omega
      rw [e9]
      refine m_J_run hM 3 rfl ⟨trivial, trivial, trivial, trivial⟩ ?_
      refine m_J_if (fun _ => ?_) (fun hc => absurd (nI_le (by omega) (by omega)) hc)
      refine m_J_run hM 1 rfl ⟨trivial, trivial⟩ ?_
      exact m_iret hM rfl rfl (rfl) (Nat.le_of_ble_eq_true rfl) (Nat.le_of_ble_eq_true rfl) (rfl) (rfl)
    | succ n9 ih =>
      intro w  hi 
      refine m_J_run hM 3 rfl ⟨trivial, trivial, trivial, trivial⟩ ?_
      refine m_J_if (fun hc => absurd hc (nI_ge (by omega) (by omega))) (fun _ => ?_)
      refine m_J_run hM 3 rfl ⟨trivial, trivial, trivial, trivial⟩ ?_
      refine m_cS2 hM rfl kw_X9_229 (y_bd (by omega) (by omega)) (Nat.le_of_ble_eq_true rfl) ?_
      cases hb : k_bd a w with
      | none =>
        rw [k_on_n]
        refine m_J_run hM 1 rfl ⟨trivial, trivial⟩ ?_
        refine m_J_if (fun _ => ?_) (fun hc => absurd (by decide) hc)
        refine m_J_run hM 5 rfl ⟨trivial, trivial, trivial, trivial, trivial, trivial⟩ ?_
        rw [nI_add (y_lk u a w) 0, nI_add w 1]
        have h9 := ih (w + 1) (by omega)
        rw [show y_lk u a (w + 1) = (y_lk u a w) + 0 by rw [y_lk, show y_lkb u a w = false by rw [y_lkb, hb]; rfl]; rfl] at h9
        exact h9
      | some t9 =>
        rw [k_on_s]
        have hbt : t9 < 60 := k_bd_lt ha hb
        refine m_J_run hM 1 rfl ⟨trivial, trivial⟩ ?_
        refine m_J_if (fun hc => absurd hc (nI_pos (by omega))) (fun _ => ?_)
        refine m_J_run hM 1 rfl ⟨trivial, trivial⟩ ?_
        refine m_J_getf hM rfl rfl (kZ hZ 0 rfl) (rfl) ?_
        refine m_J_run hM 2 rfl ⟨trivial, trivial, trivial⟩ ?_
        refine m_cS2 hM rfl kw_X9_229 (y_bd (by omega) (by omega)) (Nat.le_of_ble_eq_true rfl) ?_
        rw [hb, k_on_s]
        refine m_ialdN hM rfl (kZ hZ 1 rfl) (by omega) (by omega) ?_
        refine m_J_run hM 1 rfl ⟨trivial, trivial⟩ ?_
        refine m_J_getf hM rfl rfl (kZ hZ 0 rfl) (rfl) ?_
        refine m_J_run hM 1 rfl ⟨trivial, trivial⟩ ?_
        refine m_ialdN hM rfl (kZ hZ 1 rfl) (by omega) (by omega) ?_
        refine m_J_run hM 1 rfl ⟨trivial, trivial⟩ ?_
        refine m_J_if (fun h5 => ?_) (fun h5 => ?_)
        ·
          refine m_J_run hM 5 rfl ⟨trivial, trivial, trivial, trivial, trivial, trivial⟩ ?_
          rw [nI_add (y_lk u a w) 0, nI_add w 1]
          have h9 := ih (w + 1) (by omega)
          rw [show y_lk u a (w + 1) = (y_lk u a w) + 0 by rw [y_lk, show y_lkb u a w = false by rw [y_lkb, hb]; exact decide_eq_false h5]; rfl] at h9
          exact h9
        ·
          have h5 := Classical.not_not.mp h5
          refine m_J_run hM 6 rfl ⟨trivial, trivial, trivial, trivial, trivial, trivial, trivial⟩ ?_
          rw [nI_add (y_lk u a w) 1, nI_add w 1]
          have h9 := ih (w + 1) (by omega)
          rw [show y_lk u a (w + 1) = (y_lk u a w) + 1 by rw [y_lk, show y_lkb u a w = true by rw [y_lkb, hb]; exact decide_eq_true h5]; rfl] at h9
          exact h9
  exact LP 4 0  (by omega)
set_option maxHeartbeats 2000000 in
theorem y_look_i (hZ : Z.length = 70) {x y : Int32} (hx : k_nq x = true) : m_Dt l (m_EX E N xs) E mM_X9_look (d + 2) 0 0 [.ref 70, .int x, .int y] (Z ++ k_M th u so fz fs gt yr aK aO aT aH aW aS aL ls pl ps tp td pt en bg fa fv mt nx pL sg bo wa gv bw of o) tg (some (.int (nI 0))) (Z ++ k_M (nI 1) u so fz fs gt yr aK aO aT aH aW aS aL ls pl ps tp td pt en bg fa fv mt nx pL sg bo wa gv bw of o) tg := by
  have hM := mM_X9_look_ok
  refine m_Sp_of (by decide) (Nat.le_of_ble_eq_true rfl) ?_
  refine m_J_run hM 2 rfl ⟨trivial, trivial, trivial⟩ ?_
  refine m_J_putf hM rfl rfl (kZ hZ 0 rfl) (rfl) ?_
  refine m_J_eqH (H' := (Z ++ k_M (nI 0) u so fz fs gt yr aK aO aT aH aW aS aL ls pl ps tp td pt en bg fa fv mt nx pL sg bo wa gv bw of o)) (kZs hZ 0 rfl) ?_
  refine m_J_run hM 2 rfl ⟨trivial, trivial, trivial⟩ ?_
  refine m_cS1 hM rfl kw_X9_95 (y_nq) (Nat.le_of_ble_eq_true rfl) ?_
  rw [hx]
  refine m_J_run hM 1 rfl ⟨trivial, trivial⟩ ?_
  refine m_cV2 hZ hM rfl kw_X9_99 rfl rfl rfl (y_tif hZ (b := true) (x := nI 1)) rfl (Nat.le_of_ble_eq_true rfl) ?_
  refine m_J_eqH (H' := (Z ++ k_M (nI 1) u so fz fs gt yr aK aO aT aH aW aS aL ls pl ps tp td pt en bg fa fv mt nx pL sg bo wa gv bw of o)) rfl ?_
  refine m_J_run hM 1 rfl ⟨trivial, trivial⟩ ?_
  refine m_J_if (fun hc => absurd hc (by decide)) (fun _ => ?_)
  refine m_J_run hM 1 rfl ⟨trivial, trivial⟩ ?_
  exact m_iret hM rfl rfl (rfl) (Nat.le_of_ble_eq_true rfl) (Nat.le_of_ble_eq_true rfl) (rfl) (rfl)
set_option maxHeartbeats 2000000 in
theorem y_look_x (hZ : Z.length = 70) {a : Nat} (ha : a < 60) {x : Int32} (hx : x.toInt < 0 ∨ 3 < x.toInt) : m_Dt l (m_EX E N xs) E mM_X9_look (d + 2) 0 0 [.ref 70, .int (nI a), .int x] (Z ++ k_M th u so fz fs gt yr aK aO aT aH aW aS aL ls pl ps tp td pt en bg fa fv mt nx pL sg bo wa gv bw of o) tg (some (.int (nI 0))) (Z ++ k_M (nI 2) u so fz fs gt yr aK aO aT aH aW aS aL ls pl ps tp td pt en bg fa fv mt nx pL sg bo wa gv bw of o) tg := by
  have hM := mM_X9_look_ok
  refine m_Sp_of (by decide) (Nat.le_of_ble_eq_true rfl) ?_
  have e : m_off 117 0 3 #[32, 39, 46, 61] x = 117 := if_pos hx
  refine m_J_run hM 2 rfl ⟨trivial, trivial, trivial⟩ ?_
  refine m_J_putf hM rfl rfl (kZ hZ 0 rfl) (rfl) ?_
  refine m_J_eqH (H' := (Z ++ k_M (nI 0) u so fz fs gt yr aK aO aT aH aW aS aL ls pl ps tp td pt en bg fa fv mt nx pL sg bo wa gv bw of o)) (kZs hZ 0 rfl) ?_
  refine m_J_run hM 2 rfl ⟨trivial, trivial, trivial⟩ ?_
  refine m_cS1 hM rfl kw_X9_95 (y_nq) (Nat.le_of_ble_eq_true rfl) ?_
  rw [k_nq_ok ha]
  refine m_J_run hM 1 rfl ⟨trivial, trivial⟩ ?_
  refine m_cV2 hZ hM rfl kw_X9_99 rfl rfl rfl (y_tif hZ (b := false) (x := nI 1)) rfl (Nat.le_of_ble_eq_true rfl) ?_
  refine m_J_eqH (H' := (Z ++ k_M (nI 0) u so fz fs gt yr aK aO aT aH aW aS aL ls pl ps tp td pt en bg fa fv mt nx pL sg bo wa gv bw of o)) rfl ?_
  refine m_J_run hM 1 rfl ⟨trivial, trivial⟩ ?_
  refine m_J_if (fun _ => ?_) (fun hc => absurd (by decide) hc)
  refine m_J_run hM 1 rfl ⟨trivial, trivial⟩ ?_
  refine m_J_run hM 1 rfl ⟨⟨by rw [e]; decide, fun q => absurd hx q⟩, trivial⟩ ?_
  rw [e]
  refine m_J_run hM 2 rfl ⟨trivial, trivial, trivial⟩ ?_
  refine m_J_putf hM rfl rfl (kZ hZ 0 rfl) (rfl) ?_
  refine m_J_eqH (H' := (Z ++ k_M (nI 2) u so fz fs gt yr aK aO aT aH aW aS aL ls pl ps tp td pt en bg fa fv mt nx pL sg bo wa gv bw of o)) (kZs hZ 0 rfl) ?_
  refine m_J_run hM 1 rfl ⟨trivial, trivial⟩ ?_
  exact m_iret hM rfl rfl (rfl) (Nat.le_of_ble_eq_true rfl) (Nat.le_of_ble_eq_true rfl) (rfl) (rfl)
set_option maxHeartbeats 2000000 in
theorem y_keep (hZ : Z.length = 70) (hp : ps < 6) : m_Dt l (m_EX E N xs) E mM_X9_keep d 0 0 [.ref 70] (Z ++ k_M th u so fz fs gt yr aK aO aT aH aW aS aL ls pl ps tp td pt en bg fa fv mt nx pL sg bo wa gv bw of o) tg (some (.int (nI ps))) (Z ++ k_M (nI 0) u so fz fs gt yr aK aO aT aH aW aS aL ls (y_kp pl u ps 60) (ps + 1) tp td pt en bg fa fv mt nx pL sg bo wa gv bw of o) tg := by
  have hM := mM_X9_keep_ok
  refine m_Sp_of (by decide) (Nat.le_of_ble_eq_true rfl) ?_
  refine m_J_run hM 2 rfl ⟨trivial, trivial, trivial⟩ ?_
  refine m_J_putf hM rfl rfl (kZ hZ 0 rfl) (rfl) ?_
  refine m_J_eqH (H' := (Z ++ k_M (nI 0) u so fz fs gt yr aK aO aT aH aW aS aL ls pl ps tp td pt en bg fa fv mt nx pL sg bo wa gv bw of o)) (kZs hZ 0 rfl) ?_
  refine m_J_run hM 1 rfl ⟨trivial, trivial⟩ ?_
  refine m_J_getf hM rfl rfl (kZ hZ 0 rfl) (rfl) ?_
  refine m_J_run hM 2 rfl ⟨trivial, trivial, trivial⟩ ?_
  refine m_J_if (fun _ => ?_) (fun hc => absurd (fun q => absurd ((nI_eq (by omega) (by omega)).mp q) (by omega)) hc)
  refine m_J_run hM 2 rfl ⟨trivial, trivial, trivial⟩ ?_
  have LP : ∀ (n9 s : Nat), s + n9 = 60 → m_J l (m_EX E N xs) E mM_X9_keep d 0 0 (m_K (some (.int (nI ps))) (Z ++ k_M (nI 0) u so fz fs gt yr aK aO aT aH aW aS aL ls (y_kp pl u ps 60) (ps + 1) tp td pt en bg fa fv mt nx pL sg bo wa gv bw of o) tg) m_no tg 0 0 (18, [some (.ref 70), some (.int (nI s))], [], (Z ++ k_M (nI 0) u so fz fs gt yr aK aO aT aH aW aS aL ls (y_kp pl u ps s) ps tp td pt en bg fa fv mt nx pL sg bo wa gv bw of o)) := by
    intro n9
    induction n9 with
    | zero =>
      intro s  hi 
      have e9 : s = 60 := by omega
      rw [e9]
      refine m_J_run hM 3 rfl ⟨trivial, trivial, trivial, trivial⟩ ?_
      refine m_J_if (fun _ => ?_) (fun hc => absurd (nI_le (by omega) (by omega)) hc)
      refine m_J_run hM 2 rfl ⟨trivial, trivial, trivial⟩ ?_
      refine m_J_getf hM rfl rfl (kZ hZ 0 rfl) (rfl) ?_
      refine m_J_run hM 2 rfl ⟨trivial, trivial, trivial⟩ ?_
      rw [nI_add ps 1]
      refine m_J_putf hM rfl rfl (kZ hZ 0 rfl) (rfl) ?_
      refine m_J_eqH (H' := (Z ++ k_M (nI 0) u so fz fs gt yr aK aO aT aH aW aS aL ls (y_kp pl u ps 60) (ps + 1) tp td pt en bg fa fv mt nx pL sg bo wa gv bw of o)) (kZs hZ 0 rfl) ?_
      refine m_J_run hM 1 rfl ⟨trivial, trivial⟩ ?_
      refine m_J_getf hM rfl rfl (kZ hZ 0 rfl) (rfl) ?_
      refine m_J_run hM 2 rfl ⟨trivial, trivial, trivial⟩ ?_
      rw [show nI (ps + 1) - nI 1 = nI ((ps + 1) - 1) from pk_sub (by omega)]
      exact m_iret hM rfl rfl (rfl) (Nat.le_of_ble_eq_true rfl) (Nat.le_of_ble_eq_true rfl) (rfl) (rfl)
    | succ n9 ih =>
      intro s  hi 
      refine m_J_run hM 3 rfl ⟨trivial, trivial, trivial, trivial⟩ ?_
      refine m_J_if (fun hc => absurd hc (nI_ge (by omega) (by omega))) (fun _ => ?_)
      refine m_J_run hM 1 rfl ⟨trivial, trivial⟩ ?_
      refine m_J_getf hM rfl rfl (kZ hZ 0 rfl) (rfl) ?_
      refine m_J_run hM 2 rfl ⟨trivial, trivial, trivial⟩ ?_
      refine m_J_getf hM rfl rfl (kZ hZ 0 rfl) (rfl) ?_
      refine m_J_run hM 4 rfl ⟨trivial, trivial, trivial, trivial, trivial⟩ ?_
      rw [pk_mul 60 ps, nI_add (60 * ps) s]
      refine m_J_getf hM rfl rfl (kZ hZ 0 rfl) (rfl) ?_
      refine m_J_run hM 1 rfl ⟨trivial, trivial⟩ ?_
      refine m_ialdN hM rfl (kZ hZ 1 rfl) (by omega) (by omega) ?_
      refine m_iastN hM rfl (kZ hZ 11 rfl) (by omega) (by omega) ?_
      refine m_J_eqH (H' := (Z ++ k_M (nI 0) u so fz fs gt yr aK aO aT aH aW aS aL ls (upd (y_kp pl u ps s) ((60 * ps) + s) (u s)) ps tp td pt en bg fa fv mt nx pL sg bo wa gv bw of o)) (kZs hZ 11 (rfl)) ?_
      refine m_J_run hM 2 rfl ⟨trivial, trivial, trivial⟩ ?_
      rw [nI_add s 1]
      have h9 := ih (s + 1) (by omega)
      exact h9
  exact LP 60 0  (by omega)
set_option maxHeartbeats 2000000 in
theorem y_keep_n (hZ : Z.length = 70) (hp : ps = 6) : m_Dt l (m_EX E N xs) E mM_X9_keep d 0 0 [.ref 70] (Z ++ k_M th u so fz fs gt yr aK aO aT aH aW aS aL ls pl ps tp td pt en bg fa fv mt nx pL sg bo wa gv bw of o) tg (some (.int (-nI 1))) (Z ++ k_M (nI 0) u so fz fs gt yr aK aO aT aH aW aS aL ls pl ps tp td pt en bg fa fv mt nx pL sg bo wa gv bw of o) tg := by
  have hM := mM_X9_keep_ok
  refine m_Sp_of (by decide) (Nat.le_of_ble_eq_true rfl) ?_
  refine m_J_run hM 2 rfl ⟨trivial, trivial, trivial⟩ ?_
  refine m_J_putf hM rfl rfl (kZ hZ 0 rfl) (rfl) ?_
  refine m_J_eqH (H' := (Z ++ k_M (nI 0) u so fz fs gt yr aK aO aT aH aW aS aL ls pl ps tp td pt en bg fa fv mt nx pL sg bo wa gv bw of o)) (kZs hZ 0 rfl) ?_
  refine m_J_run hM 1 rfl ⟨trivial, trivial⟩ ?_
  refine m_J_getf hM rfl rfl (kZ hZ 0 rfl) (rfl) ?_
  refine m_J_run hM 2 rfl ⟨trivial, trivial, trivial⟩ ?_
  refine m_J_if (fun hc => absurd hc (fun q => q (congrArg nI (by omega)))) (fun _ => ?_)
  refine m_J_run hM 1 rfl ⟨trivial, trivial⟩ ?_
  exact m_iret hM rfl rfl (rfl) (Nat.le_of_ble_eq_true rfl) (Nat.le_of_ble_eq_true rfl) (rfl) (rfl)
set_option maxHeartbeats 2000000 in
theorem y_useIn (hZ : Z.length = 70) {a : Option Nat} {s : Nat} (ha : ∀ i, a = some i → i < 6) (hs : s < 60) : m_Dt l (m_EX E N xs) E mM_X9_useIn d 0 0 [.ref 70, .int (k_on a), .int (nI s)] (Z ++ k_M th u so fz fs gt yr aK aO aT aH aW aS aL ls pl ps tp td pt en bg fa fv mt nx pL sg bo wa gv bw of o) tg (some (.int (y_ui u pl a s))) (Z ++ k_M th u so fz fs gt yr aK aO aT aH aW aS aL ls pl ps tp td pt en bg fa fv mt nx pL sg bo wa gv bw of o) tg := by
  have hM := mM_X9_useIn_ok
  refine m_Sp_of (by decide) (Nat.le_of_ble_eq_true rfl) ?_
  cases a with
  | none =>
    rw [k_on_n]
    refine m_J_run hM 2 rfl ⟨trivial, trivial, trivial⟩ ?_
    refine m_J_if (fun hc => absurd hc (by decide)) (fun _ => ?_)
    refine m_J_run hM 1 rfl ⟨trivial, trivial⟩ ?_
    refine m_J_getf hM rfl rfl (kZ hZ 0 rfl) (rfl) ?_
    refine m_J_run hM 1 rfl ⟨trivial, trivial⟩ ?_
    refine m_ialdN hM rfl (kZ hZ 1 rfl) (by omega) (by omega) ?_
    refine m_J_run hM 1 rfl ⟨trivial, trivial⟩ ?_
    exact m_iret hM rfl rfl (rfl) (Nat.le_of_ble_eq_true rfl) (Nat.le_of_ble_eq_true rfl) (rfl) (rfl)
  | some i =>
    rw [k_on_s]
    have hi := ha i rfl
    refine m_J_run hM 2 rfl ⟨trivial, trivial, trivial⟩ ?_
    refine m_J_if (fun _ => ?_) (fun hc => absurd (nI_pos' (by omega)) hc)
    refine m_J_run hM 1 rfl ⟨trivial, trivial⟩ ?_
    refine m_J_getf hM rfl rfl (kZ hZ 0 rfl) (rfl) ?_
    refine m_J_run hM 5 rfl ⟨trivial, trivial, trivial, trivial, trivial, trivial⟩ ?_
    rw [pk_mul 60 i, nI_add (60 * i) s]
    refine m_ialdN hM rfl (kZ hZ 11 rfl) (by omega) (by omega) ?_
    exact m_iret hM rfl rfl (rfl) (Nat.le_of_ble_eq_true rfl) (Nat.le_of_ble_eq_true rfl) (rfl) (rfl)
set_option maxHeartbeats 2000000 in
theorem y_unlike (hZ : Z.length = 70) {a b : Option Nat} (ha : ∀ i, a = some i → i < 6) (hb : ∀ i, b = some i → i < 6) (h1 : k_im (k_on a) (-nI 1) (nI ps - nI 1) = true) (h2 : k_im (k_on b) (-nI 1) (nI ps - nI 1) = true) : m_Dt l (m_EX E N xs) E mM_X9_unlike (d + 1) 0 0 [.ref 70, .int (k_on a), .int (k_on b)] (Z ++ k_M th u so fz fs gt yr aK aO aT aH aW aS aL ls pl ps tp td pt en bg fa fv mt nx pL sg bo wa gv bw of o) tg (some (.int (nI (y_df (y_ui u pl a) (y_ui u pl b) 60)))) (Z ++ k_M (nI 0) u so fz fs gt yr aK aO aT aH aW aS aL ls pl ps tp td pt en bg fa fv mt nx pL sg bo wa gv bw of o) tg := by
  have hM := mM_X9_unlike_ok
  refine m_Sp_of (by decide) (Nat.le_of_ble_eq_true rfl) ?_
  refine m_J_run hM 2 rfl ⟨trivial, trivial, trivial⟩ ?_
  refine m_J_putf hM rfl rfl (kZ hZ 0 rfl) (rfl) ?_
  refine m_J_eqH (H' := (Z ++ k_M (nI 0) u so fz fs gt yr aK aO aT aH aW aS aL ls pl ps tp td pt en bg fa fv mt nx pL sg bo wa gv bw of o)) (kZs hZ 0 rfl) ?_
  refine m_J_run hM 4 rfl ⟨trivial, trivial, trivial, trivial, trivial⟩ ?_
  refine m_J_getf hM rfl rfl (kZ hZ 0 rfl) (rfl) ?_
  refine m_J_run hM 2 rfl ⟨trivial, trivial, trivial⟩ ?_
  refine m_cS3 hM rfl kw_X9_82 (y_in) (Nat.le_of_ble_eq_true rfl) ?_
  rw [h1]
  refine m_J_run hM 1 rfl ⟨trivial, trivial⟩ ?_
  refine m_J_if (fun hc => absurd hc (by decide)) (fun _ => ?_)
  refine m_J_run hM 3 rfl ⟨trivial, trivial, trivial, trivial⟩ ?_
  refine m_J_getf hM rfl rfl (kZ hZ 0 rfl) (rfl) ?_
  refine m_J_run hM 2 rfl ⟨trivial, trivial, trivial⟩ ?_
  refine m_cS3 hM rfl kw_X9_82 (y_in) (Nat.le_of_ble_eq_true rfl) ?_
  rw [h2]
  refine m_J_run hM 1 rfl ⟨trivial, trivial⟩ ?_
  refine m_J_if (fun _ => ?_) (fun hc => absurd (by decide) hc)
  refine m_J_run hM 2 rfl ⟨trivial, trivial, trivial⟩ ?_
  refine m_cV2 hZ hM rfl kw_X9_99 rfl rfl rfl (y_tif hZ (b := false) (x := nI 1)) rfl (Nat.le_of_ble_eq_true rfl) ?_
  refine m_J_eqH (H' := (Z ++ k_M (nI 0) u so fz fs gt yr aK aO aT aH aW aS aL ls pl ps tp td pt en bg fa fv mt nx pL sg bo wa gv bw of o)) rfl ?_
  refine m_J_run hM 1 rfl ⟨trivial, trivial⟩ ?_
  refine m_J_if (fun _ => ?_) (fun hc => absurd (by decide) hc)
  refine m_J_run hM 4 rfl ⟨trivial, trivial, trivial, trivial, trivial⟩ ?_
  have LP : ∀ (n9 s : Nat), s + n9 = 60 → m_J l (m_EX E N xs) E mM_X9_unlike (d + 1) 0 0 (m_K (some (.int (nI (y_df (y_ui u pl a) (y_ui u pl b) 60)))) (Z ++ k_M (nI 0) u so fz fs gt yr aK aO aT aH aW aS aL ls pl ps tp td pt en bg fa fv mt nx pL sg bo wa gv bw of o) tg) m_no tg 0 0 (53, [some (.ref 70), some (.int (k_on a)), some (.int (k_on b)), some (.int (nI (y_df (y_ui u pl a) (y_ui u pl b) s))), some (.int (nI s))], [], (Z ++ k_M (nI 0) u so fz fs gt yr aK aO aT aH aW aS aL ls pl ps tp td pt en bg fa fv mt nx pL sg bo wa gv bw of o)) := by
    intro n9
    induction n9 with
    | zero =>
      intro s  hi 
      have e9 : s = 60 := by omega
      rw [e9]
      refine m_J_run hM 3 rfl ⟨trivial, trivial, trivial, trivial⟩ ?_
      refine m_J_if (fun _ => ?_) (fun hc => absurd (nI_le (by omega) (by omega)) hc)
      refine m_J_run hM 1 rfl ⟨trivial, trivial⟩ ?_
      exact m_iret hM rfl rfl (rfl) (Nat.le_of_ble_eq_true rfl) (Nat.le_of_ble_eq_true rfl) (rfl) (rfl)
    | succ n9 ih =>
      intro s  hi 
      refine m_J_run hM 3 rfl ⟨trivial, trivial, trivial, trivial⟩ ?_
      refine m_J_if (fun hc => absurd hc (nI_ge (by omega) (by omega))) (fun _ => ?_)
      refine m_J_run hM 4 rfl ⟨trivial, trivial, trivial, trivial, trivial⟩ ?_
      refine m_cV2 hZ hM rfl kw_X9_275 rfl rfl rfl (y_useIn hZ ha (by omega)) rfl (Nat.le_of_ble_eq_true rfl) ?_
      refine m_J_run hM 3 rfl ⟨trivial, trivial, trivial, trivial⟩ ?_
      refine m_cV2 hZ hM rfl kw_X9_275 rfl rfl rfl (y_useIn hZ hb (by omega)) rfl (Nat.le_of_ble_eq_true rfl) ?_
      refine m_J_run hM 1 rfl ⟨trivial, trivial⟩ ?_
      refine m_J_if (fun h5 => ?_) (fun h5 => ?_)
      ·
        refine m_J_run hM 5 rfl ⟨trivial, trivial, trivial, trivial, trivial, trivial⟩ ?_
        rw [nI_add (y_df (y_ui u pl a) (y_ui u pl b) s) 0, nI_add s 1]
        have h9 := ih (s + 1) (by omega)
        rw [show y_df (y_ui u pl a) (y_ui u pl b) (s + 1) = (y_df (y_ui u pl a) (y_ui u pl b) s) + 0 by rw [y_df, if_pos h5]] at h9
        exact h9
      ·
        refine m_J_run hM 6 rfl ⟨trivial, trivial, trivial, trivial, trivial, trivial, trivial⟩ ?_
        rw [nI_add (y_df (y_ui u pl a) (y_ui u pl b) s) 1, nI_add s 1]
        have h9 := ih (s + 1) (by omega)
        rw [show y_df (y_ui u pl a) (y_ui u pl b) (s + 1) = (y_df (y_ui u pl a) (y_ui u pl b) s) + 1 by rw [y_df, if_neg h5]] at h9
        exact h9
  exact LP 60 0  (by omega)
set_option maxHeartbeats 2000000 in
theorem y_unlike_1 (hZ : Z.length = 70) {x y : Int32} (h1 : k_im x (-nI 1) (nI ps - nI 1) = false) : m_Dt l (m_EX E N xs) E mM_X9_unlike (d + 1) 0 0 [.ref 70, .int x, .int y] (Z ++ k_M th u so fz fs gt yr aK aO aT aH aW aS aL ls pl ps tp td pt en bg fa fv mt nx pL sg bo wa gv bw of o) tg (some (.int (nI 0))) (Z ++ k_M (nI 1) u so fz fs gt yr aK aO aT aH aW aS aL ls pl ps tp td pt en bg fa fv mt nx pL sg bo wa gv bw of o) tg := by
  have hM := mM_X9_unlike_ok
  refine m_Sp_of (by decide) (Nat.le_of_ble_eq_true rfl) ?_
  refine m_J_run hM 2 rfl ⟨trivial, trivial, trivial⟩ ?_
  refine m_J_putf hM rfl rfl (kZ hZ 0 rfl) (rfl) ?_
  refine m_J_eqH (H' := (Z ++ k_M (nI 0) u so fz fs gt yr aK aO aT aH aW aS aL ls pl ps tp td pt en bg fa fv mt nx pL sg bo wa gv bw of o)) (kZs hZ 0 rfl) ?_
  refine m_J_run hM 4 rfl ⟨trivial, trivial, trivial, trivial, trivial⟩ ?_
  refine m_J_getf hM rfl rfl (kZ hZ 0 rfl) (rfl) ?_
  refine m_J_run hM 2 rfl ⟨trivial, trivial, trivial⟩ ?_
  refine m_cS3 hM rfl kw_X9_82 (y_in) (Nat.le_of_ble_eq_true rfl) ?_
  rw [h1]
  refine m_J_run hM 1 rfl ⟨trivial, trivial⟩ ?_
  refine m_J_if (fun _ => ?_) (fun hc => absurd (by decide) hc)
  refine m_J_run hM 3 rfl ⟨trivial, trivial, trivial, trivial⟩ ?_
  refine m_cV2 hZ hM rfl kw_X9_99 rfl rfl rfl (y_tif hZ (b := true) (x := nI 1)) rfl (Nat.le_of_ble_eq_true rfl) ?_
  refine m_J_eqH (H' := (Z ++ k_M (nI 1) u so fz fs gt yr aK aO aT aH aW aS aL ls pl ps tp td pt en bg fa fv mt nx pL sg bo wa gv bw of o)) rfl ?_
  refine m_J_run hM 1 rfl ⟨trivial, trivial⟩ ?_
  refine m_J_if (fun hc => absurd hc (by decide)) (fun _ => ?_)
  refine m_J_run hM 1 rfl ⟨trivial, trivial⟩ ?_
  exact m_iret hM rfl rfl (rfl) (Nat.le_of_ble_eq_true rfl) (Nat.le_of_ble_eq_true rfl) (rfl) (rfl)
set_option maxHeartbeats 2000000 in
theorem y_unlike_2 (hZ : Z.length = 70) {x y : Int32} (h1 : k_im x (-nI 1) (nI ps - nI 1) = true) (h2 : k_im y (-nI 1) (nI ps - nI 1) = false) : m_Dt l (m_EX E N xs) E mM_X9_unlike (d + 1) 0 0 [.ref 70, .int x, .int y] (Z ++ k_M th u so fz fs gt yr aK aO aT aH aW aS aL ls pl ps tp td pt en bg fa fv mt nx pL sg bo wa gv bw of o) tg (some (.int (nI 0))) (Z ++ k_M (nI 1) u so fz fs gt yr aK aO aT aH aW aS aL ls pl ps tp td pt en bg fa fv mt nx pL sg bo wa gv bw of o) tg := by
  have hM := mM_X9_unlike_ok
  refine m_Sp_of (by decide) (Nat.le_of_ble_eq_true rfl) ?_
  refine m_J_run hM 2 rfl ⟨trivial, trivial, trivial⟩ ?_
  refine m_J_putf hM rfl rfl (kZ hZ 0 rfl) (rfl) ?_
  refine m_J_eqH (H' := (Z ++ k_M (nI 0) u so fz fs gt yr aK aO aT aH aW aS aL ls pl ps tp td pt en bg fa fv mt nx pL sg bo wa gv bw of o)) (kZs hZ 0 rfl) ?_
  refine m_J_run hM 4 rfl ⟨trivial, trivial, trivial, trivial, trivial⟩ ?_
  refine m_J_getf hM rfl rfl (kZ hZ 0 rfl) (rfl) ?_
  refine m_J_run hM 2 rfl ⟨trivial, trivial, trivial⟩ ?_
  refine m_cS3 hM rfl kw_X9_82 (y_in) (Nat.le_of_ble_eq_true rfl) ?_
  rw [h1]
  refine m_J_run hM 1 rfl ⟨trivial, trivial⟩ ?_
  refine m_J_if (fun hc => absurd hc (by decide)) (fun _ => ?_)
  refine m_J_run hM 3 rfl ⟨trivial, trivial, trivial, trivial⟩ ?_
  refine m_J_getf hM rfl rfl (kZ hZ 0 rfl) (rfl) ?_
  refine m_J_run hM 2 rfl ⟨trivial, trivial, trivial⟩ ?_
  refine m_cS3 hM rfl kw_X9_82 (y_in) (Nat.le_of_ble_eq_true rfl) ?_
  rw [h2]
  refine m_J_run hM 1 rfl ⟨trivial, trivial⟩ ?_
  refine m_J_if (fun hc => absurd hc (by decide)) (fun _ => ?_)
  refine m_J_run hM 3 rfl ⟨trivial, trivial, trivial, trivial⟩ ?_
  refine m_cV2 hZ hM rfl kw_X9_99 rfl rfl rfl (y_tif hZ (b := true) (x := nI 1)) rfl (Nat.le_of_ble_eq_true rfl) ?_
  refine m_J_eqH (H' := (Z ++ k_M (nI 1) u so fz fs gt yr aK aO aT aH aW aS aL ls pl ps tp td pt en bg fa fv mt nx pL sg bo wa gv bw of o)) rfl ?_
  refine m_J_run hM 1 rfl ⟨trivial, trivial⟩ ?_
  refine m_J_if (fun hc => absurd hc (by decide)) (fun _ => ?_)
  refine m_J_run hM 1 rfl ⟨trivial, trivial⟩ ?_
  exact m_iret hM rfl rfl (rfl) (Nat.le_of_ble_eq_true rfl) (Nat.le_of_ble_eq_true rfl) (rfl) (rfl)
set_option maxHeartbeats 2000000 in
theorem y_back (hZ : Z.length = 70) {a : Nat} (ha : a < ps) (hp : ps ≤ 6) : m_Dt l (m_EX E N xs) E mM_X9_back (d + 1) 0 0 [.ref 70, .int (nI a)] (Z ++ k_M th u so fz fs gt yr aK aO aT aH aW aS aL ls pl ps tp td pt en bg fa fv mt nx pL sg bo wa gv bw of o) tg (some (.int (nI (y_df u (fun s => pl (60 * a + s)) 60)))) (Z ++ k_M (nI 0) (k_upto (fun s => pl (60 * a + s)) u 60) so fz fs gt yr aK aO aT aH aW aS aL ls pl ps tp td pt en bg fa fv mt nx pL sg bo wa gv bw of o) tg := by
  have hM := mM_X9_back_ok
  refine m_Sp_of (by decide) (Nat.le_of_ble_eq_true rfl) ?_
  refine m_J_run hM 2 rfl ⟨trivial, trivial, trivial⟩ ?_
  refine m_J_putf hM rfl rfl (kZ hZ 0 rfl) (rfl) ?_
  refine m_J_eqH (H' := (Z ++ k_M (nI 0) u so fz fs gt yr aK aO aT aH aW aS aL ls pl ps tp td pt en bg fa fv mt nx pL sg bo wa gv bw of o)) (kZs hZ 0 rfl) ?_
  refine m_J_run hM 4 rfl ⟨trivial, trivial, trivial, trivial, trivial⟩ ?_
  refine m_J_getf hM rfl rfl (kZ hZ 0 rfl) (rfl) ?_
  refine m_J_run hM 2 rfl ⟨trivial, trivial, trivial⟩ ?_
  rw [show nI ps - nI 1 = nI (ps - 1) from pk_sub (by omega)]
  refine m_cS3 hM rfl kw_X9_82 (y_in) (Nat.le_of_ble_eq_true rfl) ?_
  rw [show k_im (nI a) (nI 0) (nI (ps - 1)) = true by rw [k_imN (by omega) (by omega) (by omega)]; simp; omega]
  refine m_J_run hM 1 rfl ⟨trivial, trivial⟩ ?_
  refine m_J_if (fun _ => ?_) (fun hc => absurd (by decide) hc)
  refine m_J_run hM 2 rfl ⟨trivial, trivial, trivial⟩ ?_
  refine m_cV2 hZ hM rfl kw_X9_99 rfl rfl rfl (y_tif hZ (b := false) (x := nI 1)) rfl (Nat.le_of_ble_eq_true rfl) ?_
  refine m_J_eqH (H' := (Z ++ k_M (nI 0) u so fz fs gt yr aK aO aT aH aW aS aL ls pl ps tp td pt en bg fa fv mt nx pL sg bo wa gv bw of o)) rfl ?_
  refine m_J_run hM 1 rfl ⟨trivial, trivial⟩ ?_
  refine m_J_if (fun _ => ?_) (fun hc => absurd (by decide) hc)
  refine m_J_run hM 4 rfl ⟨trivial, trivial, trivial, trivial, trivial⟩ ?_
  have LP : ∀ (n9 s : Nat), s + n9 = 60 → m_J l (m_EX E N xs) E mM_X9_back (d + 1) 0 0 (m_K (some (.int (nI (y_df u (fun s => pl (60 * a + s)) 60)))) (Z ++ k_M (nI 0) (k_upto (fun s => pl (60 * a + s)) u 60) so fz fs gt yr aK aO aT aH aW aS aL ls pl ps tp td pt en bg fa fv mt nx pL sg bo wa gv bw of o) tg) m_no tg 0 0 (38, [some (.ref 70), some (.int (nI a)), some (.int (nI (y_df u (fun s => pl (60 * a + s)) s))), some (.int (nI s))], [], (Z ++ k_M (nI 0) (k_upto (fun s => pl (60 * a + s)) u s) so fz fs gt yr aK aO aT aH aW aS aL ls pl ps tp td pt en bg fa fv mt nx pL sg bo wa gv bw of o)) := by
    intro n9
    induction n9 with
    | zero =>
      intro s  hi 
      have e9 : s = 60 := by omega
      rw [e9]
      refine m_J_run hM 3 rfl ⟨trivial, trivial, trivial, trivial⟩ ?_
      refine m_J_if (fun _ => ?_) (fun hc => absurd (nI_le (by omega) (by omega)) hc)
      refine m_J_run hM 1 rfl ⟨trivial, trivial⟩ ?_
      exact m_iret hM rfl rfl (rfl) (Nat.le_of_ble_eq_true rfl) (Nat.le_of_ble_eq_true rfl) (rfl) (rfl)
    | succ n9 ih =>
      intro s  hi 
      refine m_J_run hM 3 rfl ⟨trivial, trivial, trivial, trivial⟩ ?_
      refine m_J_if (fun hc => absurd hc (nI_ge (by omega) (by omega))) (fun _ => ?_)
      refine m_J_run hM 2 rfl ⟨trivial, trivial, trivial⟩ ?_
      refine m_J_getf hM rfl rfl (kZ hZ 0 rfl) (rfl) ?_
      refine m_J_run hM 1 rfl ⟨trivial, trivial⟩ ?_
      refine m_ialdN hM rfl (kZ hZ 1 rfl) (by omega) (by omega) ?_
      rw [k_upto_ge _ _ (Nat.le_refl s)]
      refine m_J_run hM 1 rfl ⟨trivial, trivial⟩ ?_
      refine m_J_getf hM rfl rfl (kZ hZ 0 rfl) (rfl) ?_
      refine m_J_run hM 5 rfl ⟨trivial, trivial, trivial, trivial, trivial, trivial⟩ ?_
      rw [pk_mul 60 a, nI_add (60 * a) s]
      refine m_ialdN hM rfl (kZ hZ 11 rfl) (by omega) (by omega) ?_
      refine m_J_run hM 1 rfl ⟨trivial, trivial⟩ ?_
      refine m_J_if (fun h5 => ?_) (fun h5 => ?_)
      ·
        refine m_J_run hM 4 rfl ⟨trivial, trivial, trivial, trivial, trivial⟩ ?_
        rw [nI_add (y_df u (fun s => pl (60 * a + s)) s) 0]
        refine m_J_getf hM rfl rfl (kZ hZ 0 rfl) (rfl) ?_
        refine m_J_run hM 2 rfl ⟨trivial, trivial, trivial⟩ ?_
        refine m_J_getf hM rfl rfl (kZ hZ 0 rfl) (rfl) ?_
        refine m_J_run hM 5 rfl ⟨trivial, trivial, trivial, trivial, trivial, trivial⟩ ?_
        rw [pk_mul 60 a, nI_add (60 * a) s]
        refine m_ialdN hM rfl (kZ hZ 11 rfl) (by omega) (by omega) ?_
        refine m_iastN hM rfl (kZ hZ 1 rfl) (by omega) (by omega) ?_
        refine m_J_eqH (H' := (Z ++ k_M (nI 0) (upd (k_upto (fun s => pl (60 * a + s)) u s) s (pl ((60 * a) + s))) so fz fs gt yr aK aO aT aH aW aS aL ls pl ps tp td pt en bg fa fv mt nx pL sg bo wa gv bw of o)) (kZs hZ 1 (rfl)) ?_
        refine m_J_run hM 2 rfl ⟨trivial, trivial, trivial⟩ ?_
        rw [nI_add s 1]
        have h9 := ih (s + 1) (by omega)
        rw [show y_df u (fun s => pl (60 * a + s)) (s + 1) = (y_df u (fun s => pl (60 * a + s)) s) + 0 by rw [y_df, if_pos h5]] at h9
        rw [show k_upto (fun s => pl (60 * a + s)) u (s + 1) = upd (k_upto (fun s => pl (60 * a + s)) u s) s (pl ((60 * a) + s)) from (k_upto_I _ _ _).symm] at h9
        exact h9
      ·
        refine m_J_run hM 5 rfl ⟨trivial, trivial, trivial, trivial, trivial, trivial⟩ ?_
        rw [nI_add (y_df u (fun s => pl (60 * a + s)) s) 1]
        refine m_J_getf hM rfl rfl (kZ hZ 0 rfl) (rfl) ?_
        refine m_J_run hM 2 rfl ⟨trivial, trivial, trivial⟩ ?_
        refine m_J_getf hM rfl rfl (kZ hZ 0 rfl) (rfl) ?_
        refine m_J_run hM 5 rfl ⟨trivial, trivial, trivial, trivial, trivial, trivial⟩ ?_
        rw [pk_mul 60 a, nI_add (60 * a) s]
        refine m_ialdN hM rfl (kZ hZ 11 rfl) (by omega) (by omega) ?_
        refine m_iastN hM rfl (kZ hZ 1 rfl) (by omega) (by omega) ?_
        refine m_J_eqH (H' := (Z ++ k_M (nI 0) (upd (k_upto (fun s => pl (60 * a + s)) u s) s (pl ((60 * a) + s))) so fz fs gt yr aK aO aT aH aW aS aL ls pl ps tp td pt en bg fa fv mt nx pL sg bo wa gv bw of o)) (kZs hZ 1 (rfl)) ?_
        refine m_J_run hM 2 rfl ⟨trivial, trivial, trivial⟩ ?_
        rw [nI_add s 1]
        have h9 := ih (s + 1) (by omega)
        rw [show y_df u (fun s => pl (60 * a + s)) (s + 1) = (y_df u (fun s => pl (60 * a + s)) s) + 1 by rw [y_df, if_neg h5]] at h9
        rw [show k_upto (fun s => pl (60 * a + s)) u (s + 1) = upd (k_upto (fun s => pl (60 * a + s)) u s) s (pl ((60 * a) + s)) from (k_upto_I _ _ _).symm] at h9
        exact h9
  have h9 := LP 60 0 (by omega)
  rw [k_upto_0] at h9
  exact h9
set_option maxHeartbeats 2000000 in
theorem y_back_x (hZ : Z.length = 70) {x : Int32} (hx : k_im x (nI 0) (nI ps - nI 1) = false) : m_Dt l (m_EX E N xs) E mM_X9_back (d + 1) 0 0 [.ref 70, .int x] (Z ++ k_M th u so fz fs gt yr aK aO aT aH aW aS aL ls pl ps tp td pt en bg fa fv mt nx pL sg bo wa gv bw of o) tg (some (.int (nI 0))) (Z ++ k_M (nI 1) u so fz fs gt yr aK aO aT aH aW aS aL ls pl ps tp td pt en bg fa fv mt nx pL sg bo wa gv bw of o) tg := by
  have hM := mM_X9_back_ok
  refine m_Sp_of (by decide) (Nat.le_of_ble_eq_true rfl) ?_
  refine m_J_run hM 2 rfl ⟨trivial, trivial, trivial⟩ ?_
  refine m_J_putf hM rfl rfl (kZ hZ 0 rfl) (rfl) ?_
  refine m_J_eqH (H' := (Z ++ k_M (nI 0) u so fz fs gt yr aK aO aT aH aW aS aL ls pl ps tp td pt en bg fa fv mt nx pL sg bo wa gv bw of o)) (kZs hZ 0 rfl) ?_
  refine m_J_run hM 4 rfl ⟨trivial, trivial, trivial, trivial, trivial⟩ ?_
  refine m_J_getf hM rfl rfl (kZ hZ 0 rfl) (rfl) ?_
  refine m_J_run hM 2 rfl ⟨trivial, trivial, trivial⟩ ?_
  refine m_cS3 hM rfl kw_X9_82 (y_in) (Nat.le_of_ble_eq_true rfl) ?_
  rw [hx]
  refine m_J_run hM 1 rfl ⟨trivial, trivial⟩ ?_
  refine m_J_if (fun hc => absurd hc (by decide)) (fun _ => ?_)
  refine m_J_run hM 3 rfl ⟨trivial, trivial, trivial, trivial⟩ ?_
  refine m_cV2 hZ hM rfl kw_X9_99 rfl rfl rfl (y_tif hZ (b := true) (x := nI 1)) rfl (Nat.le_of_ble_eq_true rfl) ?_
  refine m_J_eqH (H' := (Z ++ k_M (nI 1) u so fz fs gt yr aK aO aT aH aW aS aL ls pl ps tp td pt en bg fa fv mt nx pL sg bo wa gv bw of o)) rfl ?_
  refine m_J_run hM 1 rfl ⟨trivial, trivial⟩ ?_
  refine m_J_if (fun hc => absurd hc (by decide)) (fun _ => ?_)
  refine m_J_run hM 1 rfl ⟨trivial, trivial⟩ ?_
  exact m_iret hM rfl rfl (rfl) (Nat.le_of_ble_eq_true rfl) (Nat.le_of_ble_eq_true rfl) (rfl) (rfl)
set_option maxHeartbeats 2000000 in
theorem y_count_u (hZ : Z.length = 70) {v : Nat} (hv : v < 5) : m_Dt l (m_EX E N xs) E mM_X9_count (d + 2) 0 0 [.ref 70, .int (nI v)] (Z ++ k_M th u so fz fs gt yr aK aO aT aH aW aS aL ls pl ps tp td pt en bg fa fv mt nx pL sg bo wa gv bw of o) tg (some (.int (nI (y_cnt u (nI v) 60)))) (Z ++ k_M (nI 0) u so fz fs gt yr aK aO aT aH aW aS aL ls pl ps tp td pt en bg fa fv mt nx pL sg bo wa gv bw of o) tg := by
  have hM := mM_X9_count_ok
  refine m_Sp_of (by decide) (Nat.le_of_ble_eq_true rfl) ?_
  have e : ∀ v, v < 5 → m_off 116 0 9 #[56, 56, 56, 56, 56, 62, 67, 72, 106, 111] (nI v) = 56 := by decide +kernel
  have e2 : ∀ v, v < 5 → (¬ ((nI v).toInt < 0 ∨ 9 < (nI v).toInt) → ((nI v).toInt - 0).toNat < 10) := by decide +kernel
  refine m_J_run hM 2 rfl ⟨trivial, trivial, trivial⟩ ?_
  refine m_J_putf hM rfl rfl (kZ hZ 0 rfl) (rfl) ?_
  refine m_J_eqH (H' := (Z ++ k_M (nI 0) u so fz fs gt yr aK aO aT aH aW aS aL ls pl ps tp td pt en bg fa fv mt nx pL sg bo wa gv bw of o)) (kZs hZ 0 rfl) ?_
  refine m_J_run hM 3 rfl ⟨trivial, trivial, trivial, trivial⟩ ?_
  refine m_J_run hM 1 rfl ⟨⟨by rw [e v hv]; decide, e2 v hv⟩, trivial⟩ ?_
  rw [e v hv]
  refine m_J_run hM 2 rfl ⟨trivial, trivial, trivial⟩ ?_
  refine m_cV1 hZ hM rfl kw_X9_235 rfl rfl rfl (y_count hZ) rfl (Nat.le_of_ble_eq_true rfl) ?_
  exact m_iret hM rfl rfl (rfl) (Nat.le_of_ble_eq_true rfl) (Nat.le_of_ble_eq_true rfl) (rfl) (rfl)
set_option maxHeartbeats 2000000 in
theorem y_count_5 (hZ : Z.length = 70)  : m_Dt l (m_EX E N xs) E mM_X9_count (d + 2) 0 0 [.ref 70, .int (nI 5)] (Z ++ k_M th u so fz fs gt yr aK aO aT aH aW aS aL ls pl ps tp td pt en bg fa fv mt nx pL sg bo wa gv bw of o) tg (some (.int (nI fs))) (Z ++ k_M (nI 0) u so fz fs gt yr aK aO aT aH aW aS aL ls pl ps tp td pt en bg fa fv mt nx pL sg bo wa gv bw of o) tg := by
  have hM := mM_X9_count_ok
  refine m_Sp_of (by decide) (Nat.le_of_ble_eq_true rfl) ?_
  refine m_J_run hM 2 rfl ⟨trivial, trivial, trivial⟩ ?_
  refine m_J_putf hM rfl rfl (kZ hZ 0 rfl) (rfl) ?_
  refine m_J_eqH (H' := (Z ++ k_M (nI 0) u so fz fs gt yr aK aO aT aH aW aS aL ls pl ps tp td pt en bg fa fv mt nx pL sg bo wa gv bw of o)) (kZs hZ 0 rfl) ?_
  refine m_J_run hM 3 rfl ⟨trivial, trivial, trivial, trivial⟩ ?_
  refine m_J_run hM 1 rfl ⟨by decide, trivial⟩ ?_
  refine m_J_run hM 1 rfl ⟨trivial, trivial⟩ ?_
  refine m_J_getf hM rfl rfl (kZ hZ 0 rfl) (rfl) ?_
  exact m_iret hM rfl rfl (rfl) (Nat.le_of_ble_eq_true rfl) (Nat.le_of_ble_eq_true rfl) (rfl) (rfl)
set_option maxHeartbeats 2000000 in
theorem y_count_6 (hZ : Z.length = 70)  : m_Dt l (m_EX E N xs) E mM_X9_count (d + 2) 0 0 [.ref 70, .int (nI 6)] (Z ++ k_M th u so fz fs gt yr aK aO aT aH aW aS aL ls pl ps tp td pt en bg fa fv mt nx pL sg bo wa gv bw of o) tg (some (.int (nI ls))) (Z ++ k_M (nI 0) u so fz fs gt yr aK aO aT aH aW aS aL ls pl ps tp td pt en bg fa fv mt nx pL sg bo wa gv bw of o) tg := by
  have hM := mM_X9_count_ok
  refine m_Sp_of (by decide) (Nat.le_of_ble_eq_true rfl) ?_
  refine m_J_run hM 2 rfl ⟨trivial, trivial, trivial⟩ ?_
  refine m_J_putf hM rfl rfl (kZ hZ 0 rfl) (rfl) ?_
  refine m_J_eqH (H' := (Z ++ k_M (nI 0) u so fz fs gt yr aK aO aT aH aW aS aL ls pl ps tp td pt en bg fa fv mt nx pL sg bo wa gv bw of o)) (kZs hZ 0 rfl) ?_
  refine m_J_run hM 3 rfl ⟨trivial, trivial, trivial, trivial⟩ ?_
  refine m_J_run hM 1 rfl ⟨by decide, trivial⟩ ?_
  refine m_J_run hM 1 rfl ⟨trivial, trivial⟩ ?_
  refine m_J_getf hM rfl rfl (kZ hZ 0 rfl) (rfl) ?_
  exact m_iret hM rfl rfl (rfl) (Nat.le_of_ble_eq_true rfl) (Nat.le_of_ble_eq_true rfl) (rfl) (rfl)
set_option maxHeartbeats 2000000 in
theorem y_count_8 (hZ : Z.length = 70)  : m_Dt l (m_EX E N xs) E mM_X9_count (d + 2) 0 0 [.ref 70, .int (nI 8)] (Z ++ k_M th u so fz fs gt yr aK aO aT aH aW aS aL ls pl ps tp td pt en bg fa fv mt nx pL sg bo wa gv bw of o) tg (some (.int (nI ps))) (Z ++ k_M (nI 0) u so fz fs gt yr aK aO aT aH aW aS aL ls pl ps tp td pt en bg fa fv mt nx pL sg bo wa gv bw of o) tg := by
  have hM := mM_X9_count_ok
  refine m_Sp_of (by decide) (Nat.le_of_ble_eq_true rfl) ?_
  refine m_J_run hM 2 rfl ⟨trivial, trivial, trivial⟩ ?_
  refine m_J_putf hM rfl rfl (kZ hZ 0 rfl) (rfl) ?_
  refine m_J_eqH (H' := (Z ++ k_M (nI 0) u so fz fs gt yr aK aO aT aH aW aS aL ls pl ps tp td pt en bg fa fv mt nx pL sg bo wa gv bw of o)) (kZs hZ 0 rfl) ?_
  refine m_J_run hM 3 rfl ⟨trivial, trivial, trivial, trivial⟩ ?_
  refine m_J_run hM 1 rfl ⟨by decide, trivial⟩ ?_
  refine m_J_run hM 1 rfl ⟨trivial, trivial⟩ ?_
  refine m_J_getf hM rfl rfl (kZ hZ 0 rfl) (rfl) ?_
  exact m_iret hM rfl rfl (rfl) (Nat.le_of_ble_eq_true rfl) (Nat.le_of_ble_eq_true rfl) (rfl) (rfl)
set_option maxHeartbeats 2000000 in
theorem y_count_9 (hZ : Z.length = 70)  : m_Dt l (m_EX E N xs) E mM_X9_count (d + 2) 0 0 [.ref 70, .int (nI 9)] (Z ++ k_M th u so fz fs gt yr aK aO aT aH aW aS aL ls pl ps tp td pt en bg fa fv mt nx pL sg bo wa gv bw of o) tg (some (.int (nI yr))) (Z ++ k_M (nI 0) u so fz fs gt yr aK aO aT aH aW aS aL ls pl ps tp td pt en bg fa fv mt nx pL sg bo wa gv bw of o) tg := by
  have hM := mM_X9_count_ok
  refine m_Sp_of (by decide) (Nat.le_of_ble_eq_true rfl) ?_
  refine m_J_run hM 2 rfl ⟨trivial, trivial, trivial⟩ ?_
  refine m_J_putf hM rfl rfl (kZ hZ 0 rfl) (rfl) ?_
  refine m_J_eqH (H' := (Z ++ k_M (nI 0) u so fz fs gt yr aK aO aT aH aW aS aL ls pl ps tp td pt en bg fa fv mt nx pL sg bo wa gv bw of o)) (kZs hZ 0 rfl) ?_
  refine m_J_run hM 3 rfl ⟨trivial, trivial, trivial, trivial⟩ ?_
  refine m_J_run hM 1 rfl ⟨by decide, trivial⟩ ?_
  refine m_J_run hM 1 rfl ⟨trivial, trivial⟩ ?_
  refine m_J_getf hM rfl rfl (kZ hZ 0 rfl) (rfl) ?_
  exact m_iret hM rfl rfl (rfl) (Nat.le_of_ble_eq_true rfl) (Nat.le_of_ble_eq_true rfl) (rfl) (rfl)
set_option maxHeartbeats 2000000 in
theorem y_count_7 (hZ : Z.length = 70) (hls : ls ≤ 14) : m_Dt l (m_EX E N xs) E mM_X9_count (d + 2) 0 0 [.ref 70, .int (nI 7)] (Z ++ k_M th u so fz fs gt yr aK aO aT aH aW aS aL ls pl ps tp td pt en bg fa fv mt nx pL sg bo wa gv bw of o) tg (some (.int (nI (y_lws aK ls)))) (Z ++ k_M (nI 0) u so fz fs gt yr aK aO aT aH aW aS aL ls pl ps tp td pt en bg fa fv mt nx pL sg bo wa gv bw of o) tg := by
  have hM := mM_X9_count_ok
  refine m_Sp_of (by decide) (Nat.le_of_ble_eq_true rfl) ?_
  refine m_J_run hM 2 rfl ⟨trivial, trivial, trivial⟩ ?_
  refine m_J_putf hM rfl rfl (kZ hZ 0 rfl) (rfl) ?_
  refine m_J_eqH (H' := (Z ++ k_M (nI 0) u so fz fs gt yr aK aO aT aH aW aS aL ls pl ps tp td pt en bg fa fv mt nx pL sg bo wa gv bw of o)) (kZs hZ 0 rfl) ?_
  refine m_J_run hM 3 rfl ⟨trivial, trivial, trivial, trivial⟩ ?_
  refine m_J_run hM 1 rfl ⟨by decide, trivial⟩ ?_
  refine m_J_run hM 2 rfl ⟨trivial, trivial, trivial⟩ ?_
  have LP : ∀ (n9 i : Nat), i + n9 = ls → m_J l (m_EX E N xs) E mM_X9_count (d + 2) 0 0 (m_K (some (.int (nI (y_lws aK ls)))) (Z ++ k_M (nI 0) u so fz fs gt yr aK aO aT aH aW aS aL ls pl ps tp td pt en bg fa fv mt nx pL sg bo wa gv bw of o) tg) m_no tg 0 0 (82, [some (.ref 70), some (.int (nI 7)), some (.int (nI (y_lws aK i))), some (.int (nI i))], [], (Z ++ k_M (nI 0) u so fz fs gt yr aK aO aT aH aW aS aL ls pl ps tp td pt en bg fa fv mt nx pL sg bo wa gv bw of o)) := by
    intro n9
    induction n9 with
    | zero =>
      intro i  hi 
      have e9 : i = ls := by omega
      rw [e9]
      refine m_J_run hM 2 rfl ⟨trivial, trivial, trivial⟩ ?_
      refine m_J_getf hM rfl rfl (kZ hZ 0 rfl) (rfl) ?_
      refine m_J_run hM 1 rfl ⟨trivial, trivial⟩ ?_
      refine m_J_if (fun _ => ?_) (fun hc => absurd (nI_le (by omega) (by omega)) hc)
      refine m_J_run hM 1 rfl ⟨trivial, trivial⟩ ?_
      exact m_iret hM rfl rfl (rfl) (Nat.le_of_ble_eq_true rfl) (Nat.le_of_ble_eq_true rfl) (rfl) (rfl)
    | succ n9 ih =>
      intro i  hi 
      refine m_J_run hM 2 rfl ⟨trivial, trivial, trivial⟩ ?_
      refine m_J_getf hM rfl rfl (kZ hZ 0 rfl) (rfl) ?_
      refine m_J_run hM 1 rfl ⟨trivial, trivial⟩ ?_
      refine m_J_if (fun hc => absurd hc (nI_ge (by omega) (by omega))) (fun _ => ?_)
      refine m_J_run hM 3 rfl ⟨trivial, trivial, trivial, trivial⟩ ?_
      refine m_cV1 hZ hM rfl kw_X9_269 rfl rfl rfl (y_isLaw hZ (by omega)) rfl (Nat.le_of_ble_eq_true rfl) ?_
      cases h5 : y_isl aK i with
      | false =>
        refine m_J_run hM 1 rfl ⟨trivial, trivial⟩ ?_
        refine m_J_if (fun _ => ?_) (fun hc => absurd (by decide) hc)
        refine m_J_run hM 5 rfl ⟨trivial, trivial, trivial, trivial, trivial, trivial⟩ ?_
        rw [nI_add (y_lws aK i) 0, nI_add i 1]
        have h9 := ih (i + 1) (by omega)
        rw [show y_lws aK (i + 1) = (y_lws aK i) + 0 by rw [y_lws, h5]; rfl] at h9
        exact h9
      | true =>
        refine m_J_run hM 1 rfl ⟨trivial, trivial⟩ ?_
        refine m_J_if (fun hc => absurd hc (by decide)) (fun _ => ?_)
        refine m_J_run hM 6 rfl ⟨trivial, trivial, trivial, trivial, trivial, trivial, trivial⟩ ?_
        rw [nI_add (y_lws aK i) 1, nI_add i 1]
        have h9 := ih (i + 1) (by omega)
        rw [show y_lws aK (i + 1) = (y_lws aK i) + 1 by rw [y_lws, h5]; rfl] at h9
        exact h9
  exact LP ls 0  (by omega)
set_option maxHeartbeats 2000000 in
theorem y_count_x (hZ : Z.length = 70) {x : Int32} (hx : x.toInt < 0 ∨ 9 < x.toInt) : m_Dt l (m_EX E N xs) E mM_X9_count (d + 2) 0 0 [.ref 70, .int x] (Z ++ k_M th u so fz fs gt yr aK aO aT aH aW aS aL ls pl ps tp td pt en bg fa fv mt nx pL sg bo wa gv bw of o) tg (some (.int (-nI 1))) (Z ++ k_M (nI 0) u so fz fs gt yr aK aO aT aH aW aS aL ls pl ps tp td pt en bg fa fv mt nx pL sg bo wa gv bw of o) tg := by
  have hM := mM_X9_count_ok
  refine m_Sp_of (by decide) (Nat.le_of_ble_eq_true rfl) ?_
  have e : m_off 116 0 9 #[56, 56, 56, 56, 56, 62, 67, 72, 106, 111] x = 116 := if_pos hx
  refine m_J_run hM 2 rfl ⟨trivial, trivial, trivial⟩ ?_
  refine m_J_putf hM rfl rfl (kZ hZ 0 rfl) (rfl) ?_
  refine m_J_eqH (H' := (Z ++ k_M (nI 0) u so fz fs gt yr aK aO aT aH aW aS aL ls pl ps tp td pt en bg fa fv mt nx pL sg bo wa gv bw of o)) (kZs hZ 0 rfl) ?_
  refine m_J_run hM 3 rfl ⟨trivial, trivial, trivial, trivial⟩ ?_
  refine m_J_run hM 1 rfl ⟨⟨by rw [e]; decide, fun q => absurd hx q⟩, trivial⟩ ?_
  rw [e]
  refine m_J_run hM 1 rfl ⟨trivial, trivial⟩ ?_
  exact m_iret hM rfl rfl (rfl) (Nat.le_of_ble_eq_true rfl) (Nat.le_of_ble_eq_true rfl) (rfl) (rfl)
set_option maxHeartbeats 2000000 in
theorem y_feed (hZ : Z.length = 70) {a b c x e : Int32} (ht : td + 20 ≤ 400) : m_Dt l (m_EX E N xs) E mM_X9_feed d 0 0 [.ref 70, .int a, .int b, .int c, .int x, .int e] (Z ++ k_M th u so fz fs gt yr aK aO aT aH aW aS aL ls pl ps tp td pt en bg fa fv mt nx pL sg bo wa gv bw of o) tg (some (.int (nI (td + 20)))) (Z ++ k_M (nI 0) u so fz fs gt yr aK aO aT aH aW aS aL ls pl ps (y_fd tp td (y_f5 fv a b c x e) 20) (td + 20) pt en bg fa (y_f5 fv a b c x e) mt nx pL sg bo wa gv bw of o) tg := by
  have hM := mM_X9_feed_ok
  refine m_Sp_of (by decide) (Nat.le_of_ble_eq_true rfl) ?_
  refine m_J_run hM 2 rfl ⟨trivial, trivial, trivial⟩ ?_
  refine m_J_putf hM rfl rfl (kZ hZ 0 rfl) (rfl) ?_
  refine m_J_eqH (H' := (Z ++ k_M (nI 0) u so fz fs gt yr aK aO aT aH aW aS aL ls pl ps tp td pt en bg fa fv mt nx pL sg bo wa gv bw of o)) (kZs hZ 0 rfl) ?_
  refine m_J_run hM 1 rfl ⟨trivial, trivial⟩ ?_
  refine m_J_getf hM rfl rfl (kZ hZ 0 rfl) (rfl) ?_
  refine m_J_run hM 4 rfl ⟨trivial, trivial, trivial, trivial, trivial⟩ ?_
  rw [nI_add td 20]
  refine m_J_if (fun _ => ?_) (fun hc => absurd (nI_le (by omega) (by omega)) hc)
  refine m_J_run hM 1 rfl ⟨trivial, trivial⟩ ?_
  refine m_J_getf hM rfl rfl (kZ hZ 0 rfl) (rfl) ?_
  refine m_J_run hM 2 rfl ⟨trivial, trivial, trivial⟩ ?_
  refine m_iastN hM rfl (kZ hZ 13 rfl) (by omega) (by omega) ?_
  refine m_J_eqH (H' := (Z ++ k_M (nI 0) u so fz fs gt yr aK aO aT aH aW aS aL ls pl ps tp td pt en bg fa (upd fv 0 a) mt nx pL sg bo wa gv bw of o)) (kZs hZ 13 (rfl)) ?_
  refine m_J_run hM 1 rfl ⟨trivial, trivial⟩ ?_
  refine m_J_getf hM rfl rfl (kZ hZ 0 rfl) (rfl) ?_
  refine m_J_run hM 2 rfl ⟨trivial, trivial, trivial⟩ ?_
  refine m_iastN hM rfl (kZ hZ 13 rfl) (by omega) (by omega) ?_
  refine m_J_eqH (H' := (Z ++ k_M (nI 0) u so fz fs gt yr aK aO aT aH aW aS aL ls pl ps tp td pt en bg fa (upd (upd fv 0 a) 1 b) mt nx pL sg bo wa gv bw of o)) (kZs hZ 13 (rfl)) ?_
  refine m_J_run hM 1 rfl ⟨trivial, trivial⟩ ?_
  refine m_J_getf hM rfl rfl (kZ hZ 0 rfl) (rfl) ?_
  refine m_J_run hM 2 rfl ⟨trivial, trivial, trivial⟩ ?_
  refine m_iastN hM rfl (kZ hZ 13 rfl) (by omega) (by omega) ?_
  refine m_J_eqH (H' := (Z ++ k_M (nI 0) u so fz fs gt yr aK aO aT aH aW aS aL ls pl ps tp td pt en bg fa (upd (upd (upd fv 0 a) 1 b) 2 c) mt nx pL sg bo wa gv bw of o)) (kZs hZ 13 (rfl)) ?_
  refine m_J_run hM 1 rfl ⟨trivial, trivial⟩ ?_
  refine m_J_getf hM rfl rfl (kZ hZ 0 rfl) (rfl) ?_
  refine m_J_run hM 2 rfl ⟨trivial, trivial, trivial⟩ ?_
  refine m_iastN hM rfl (kZ hZ 13 rfl) (by omega) (by omega) ?_
  refine m_J_eqH (H' := (Z ++ k_M (nI 0) u so fz fs gt yr aK aO aT aH aW aS aL ls pl ps tp td pt en bg fa (upd (upd (upd (upd fv 0 a) 1 b) 2 c) 3 x) mt nx pL sg bo wa gv bw of o)) (kZs hZ 13 (rfl)) ?_
  refine m_J_run hM 1 rfl ⟨trivial, trivial⟩ ?_
  refine m_J_getf hM rfl rfl (kZ hZ 0 rfl) (rfl) ?_
  refine m_J_run hM 2 rfl ⟨trivial, trivial, trivial⟩ ?_
  refine m_iastN hM rfl (kZ hZ 13 rfl) (by omega) (by omega) ?_
  refine m_J_eqH (H' := (Z ++ k_M (nI 0) u so fz fs gt yr aK aO aT aH aW aS aL ls pl ps tp td pt en bg fa (upd (upd (upd (upd (upd fv 0 a) 1 b) 2 c) 3 x) 4 e) mt nx pL sg bo wa gv bw of o)) (kZs hZ 13 (rfl)) ?_
  refine m_J_run hM 2 rfl ⟨trivial, trivial, trivial⟩ ?_
  refine m_J_eqH (H' := (Z ++ k_M (nI 0) u so fz fs gt yr aK aO aT aH aW aS aL ls pl ps tp td pt en bg fa (y_f5 fv a b c x e) mt nx pL sg bo wa gv bw of o)) (rfl) ?_
  have LP : ∀ (n9 k : Nat), k + n9 = 20 → m_J l (m_EX E N xs) E mM_X9_feed d 0 0 (m_K (some (.int (nI (td + 20)))) (Z ++ k_M (nI 0) u so fz fs gt yr aK aO aT aH aW aS aL ls pl ps (y_fd tp td (y_f5 fv a b c x e) 20) (td + 20) pt en bg fa (y_f5 fv a b c x e) mt nx pL sg bo wa gv bw of o) tg) m_no tg 0 0 (60, [some (.ref 70), some (.int a), some (.int b), some (.int c), some (.int x), some (.int e), some (.int (nI k))], [], (Z ++ k_M (nI 0) u so fz fs gt yr aK aO aT aH aW aS aL ls pl ps (y_fd tp td (y_f5 fv a b c x e) k) td pt en bg fa (y_f5 fv a b c x e) mt nx pL sg bo wa gv bw of o)) := by
    intro n9
    induction n9 with
    | zero =>
      intro k  hi 
      have e9 : k = 20 := by omega
      rw [e9]
      refine m_J_run hM 3 rfl ⟨trivial, trivial, trivial, trivial⟩ ?_
      refine m_J_if (fun _ => ?_) (fun hc => absurd (nI_le (by omega) (by omega)) hc)
      refine m_J_run hM 2 rfl ⟨trivial, trivial, trivial⟩ ?_
      refine m_J_getf hM rfl rfl (kZ hZ 0 rfl) (rfl) ?_
      refine m_J_run hM 2 rfl ⟨trivial, trivial, trivial⟩ ?_
      rw [nI_add td 20]
      refine m_J_putf hM rfl rfl (kZ hZ 0 rfl) (rfl) ?_
      refine m_J_eqH (H' := (Z ++ k_M (nI 0) u so fz fs gt yr aK aO aT aH aW aS aL ls pl ps (y_fd tp td (y_f5 fv a b c x e) 20) (td + 20) pt en bg fa (y_f5 fv a b c x e) mt nx pL sg bo wa gv bw of o)) (kZs hZ 0 rfl) ?_
      refine m_J_run hM 1 rfl ⟨trivial, trivial⟩ ?_
      refine m_J_getf hM rfl rfl (kZ hZ 0 rfl) (rfl) ?_
      exact m_iret hM rfl rfl (rfl) (Nat.le_of_ble_eq_true rfl) (Nat.le_of_ble_eq_true rfl) (rfl) (rfl)
    | succ n9 ih =>
      intro k  hi 
      refine m_J_run hM 3 rfl ⟨trivial, trivial, trivial, trivial⟩ ?_
      refine m_J_if (fun hc => absurd hc (nI_ge (by omega) (by omega))) (fun _ => ?_)
      refine m_J_run hM 1 rfl ⟨trivial, trivial⟩ ?_
      refine m_J_getf hM rfl rfl (kZ hZ 0 rfl) (rfl) ?_
      refine m_J_run hM 1 rfl ⟨trivial, trivial⟩ ?_
      refine m_J_getf hM rfl rfl (kZ hZ 0 rfl) (rfl) ?_
      refine m_J_run hM 3 rfl ⟨trivial, trivial, trivial, trivial⟩ ?_
      rw [nI_add td k]
      refine m_J_getf hM rfl rfl (kZ hZ 0 rfl) (rfl) ?_
      refine m_J_run hM 2 rfl ⟨trivial, trivial, trivial⟩ ?_
      refine m_J_run hM 1 rfl ⟨(by decide), trivial⟩ ?_
      rw [show nI k / nI 4 = nI (k / 4) from pk_div (by omega) (by omega) (by omega)]
      refine m_ialdN hM rfl (kZ hZ 13 rfl) (by omega) (by omega) ?_
      refine m_J_run hM 4 rfl ⟨trivial, trivial, trivial, trivial, trivial⟩ ?_
      refine m_J_run hM 1 rfl ⟨(by decide), trivial⟩ ?_
      rw [show nI k - nI k / nI 4 * nI 4 = nI (k % 4) from pk_rem (by omega) (by omega) (by omega)]
      refine m_J_run hM 4 rfl ⟨trivial, trivial, trivial, trivial, trivial⟩ ?_
      rw [pk_mul 8 (k % 4), show nI 24 - nI (8 * (k % 4)) = nI (24 - (8 * (k % 4))) from pk_sub (by omega)]
      refine m_bastN hM rfl (kZ hZ 12 rfl) (by omega) (by omega) ?_
      refine m_J_eqH (H' := (Z ++ k_M (nI 0) u so fz fs gt yr aK aO aT aH aW aS aL ls pl ps (upd (y_fd tp td (y_f5 fv a b c x e) k) (td + k) (vp_nar .byte ((((y_f5 fv a b c x e) (k / 4)) >>> ((nI (24 - (8 * (k % 4)))) &&& 31)).toInt8.toInt32))) td pt en bg fa (y_f5 fv a b c x e) mt nx pL sg bo wa gv bw of o)) (kZs hZ 12 (rfl)) ?_
      refine m_J_run hM 2 rfl ⟨trivial, trivial, trivial⟩ ?_
      rw [nI_add k 1]
      have h9 := ih (k + 1) (by omega)
      exact h9
  exact LP 20 0  (by omega)
set_option maxHeartbeats 2000000 in
theorem y_feed_n (hZ : Z.length = 70) {a b c x e : Int32} (ht : 400 < td + 20) (h9 : td ≤ 400) : m_Dt l (m_EX E N xs) E mM_X9_feed d 0 0 [.ref 70, .int a, .int b, .int c, .int x, .int e] (Z ++ k_M th u so fz fs gt yr aK aO aT aH aW aS aL ls pl ps tp td pt en bg fa fv mt nx pL sg bo wa gv bw of o) tg (some (.int (-nI 1))) (Z ++ k_M (nI 0) u so fz fs gt yr aK aO aT aH aW aS aL ls pl ps tp td pt en bg fa fv mt nx pL sg bo wa gv bw of o) tg := by
  have hM := mM_X9_feed_ok
  refine m_Sp_of (by decide) (Nat.le_of_ble_eq_true rfl) ?_
  refine m_J_run hM 2 rfl ⟨trivial, trivial, trivial⟩ ?_
  refine m_J_putf hM rfl rfl (kZ hZ 0 rfl) (rfl) ?_
  refine m_J_eqH (H' := (Z ++ k_M (nI 0) u so fz fs gt yr aK aO aT aH aW aS aL ls pl ps tp td pt en bg fa fv mt nx pL sg bo wa gv bw of o)) (kZs hZ 0 rfl) ?_
  refine m_J_run hM 1 rfl ⟨trivial, trivial⟩ ?_
  refine m_J_getf hM rfl rfl (kZ hZ 0 rfl) (rfl) ?_
  refine m_J_run hM 4 rfl ⟨trivial, trivial, trivial, trivial, trivial⟩ ?_
  rw [nI_add td 20]
  refine m_J_if (fun hc => absurd hc (nI_ge (by omega) (by omega))) (fun _ => ?_)
  refine m_J_run hM 1 rfl ⟨trivial, trivial⟩ ?_
  exact m_iret hM rfl rfl (rfl) (Nat.le_of_ble_eq_true rfl) (Nat.le_of_ble_eq_true rfl) (rfl) (rfl)
set_option maxHeartbeats 2000000 in
theorem y_grows (hZ : Z.length = 70) {k s : Nat} (hk : k < 28) (hs : s < 60) : m_Dt l (m_EX E N xs) E mM_X9_grows (d + 1) 0 0 [.ref 70, .int (nI k), .int (nI s)] (Z ++ k_M th u so fz fs gt yr aK aO aT aH aW aS aL ls pl ps tp td pt en bg fa fv mt nx pL sg bo wa gv bw of o) tg (some (.int (k_z (y_gr aK aO aH aS aL u k s)))) (Z ++ k_M th u so fz fs gt yr aK aO aT aH aW aS aL ls pl ps tp td pt en bg fa fv mt nx pL sg bo wa gv bw of o) tg := by
  have hM := mM_X9_grows_ok
  refine m_Sp_of (by decide) (Nat.le_of_ble_eq_true rfl) ?_
  refine m_J_run hM 1 rfl ⟨trivial, trivial⟩ ?_
  refine m_J_getf hM rfl rfl (kZ hZ 0 rfl) (rfl) ?_
  refine m_J_run hM 1 rfl ⟨trivial, trivial⟩ ?_
  refine m_ialdN hM rfl (kZ hZ 4 rfl) (by omega) (by omega) ?_
  refine m_J_run hM 1 rfl ⟨trivial, trivial⟩ ?_
  refine m_J_run hM 1 rfl ⟨trivial, trivial⟩ ?_
  refine m_J_if (fun h1 => ?_) (fun h1 => ?_)
  ·
    refine m_J_run hM 1 rfl ⟨trivial, trivial⟩ ?_
    exact m_iret hM rfl rfl (by decide) (Nat.le_of_ble_eq_true rfl) (Nat.le_of_ble_eq_true rfl) (by rw [y_gr, decide_eq_false (fun q => h1 q.1)]; rfl) (rfl)
  ·
    have h1 := Classical.not_not.mp h1
    refine m_J_run hM 1 rfl ⟨trivial, trivial⟩ ?_
    refine m_J_getf hM rfl rfl (kZ hZ 0 rfl) (rfl) ?_
    refine m_J_run hM 1 rfl ⟨trivial, trivial⟩ ?_
    refine m_ialdN hM rfl (kZ hZ 1 rfl) (by omega) (by omega) ?_
    refine m_J_run hM 1 rfl ⟨trivial, trivial⟩ ?_
    refine m_J_getf hM rfl rfl (kZ hZ 0 rfl) (rfl) ?_
    refine m_J_run hM 1 rfl ⟨trivial, trivial⟩ ?_
    refine m_ialdN hM rfl (kZ hZ 5 rfl) (by omega) (by omega) ?_
    refine m_J_run hM 1 rfl ⟨trivial, trivial⟩ ?_
    refine m_J_if (fun h2 => ?_) (fun h2 => ?_)
    ·
      refine m_J_run hM 4 rfl ⟨trivial, trivial, trivial, trivial, trivial⟩ ?_
      have LP : ∀ (n9 t : Nat), t + n9 = 60 → m_J l (m_EX E N xs) E mM_X9_grows (d + 1) 0 0 (m_K (some (.int (k_z (y_gr aK aO aH aS aL u k s)))) (Z ++ k_M th u so fz fs gt yr aK aO aT aH aW aS aL ls pl ps tp td pt en bg fa fv mt nx pL sg bo wa gv bw of o) tg) m_no tg 0 0 (33, [some (.ref 70), some (.int (nI k)), some (.int (nI s)), some (.int (nI (y_gc aH aS u k s t))), some (.int (nI t))], [], (Z ++ k_M th u so fz fs gt yr aK aO aT aH aW aS aL ls pl ps tp td pt en bg fa fv mt nx pL sg bo wa gv bw of o)) := by
        intro n9
        induction n9 with
        | zero =>
          intro t  hi 
          have e9 : t = 60 := by omega
          rw [e9]
          refine m_J_run hM 3 rfl ⟨trivial, trivial, trivial, trivial⟩ ?_
          refine m_J_if (fun _ => ?_) (fun hc => absurd (nI_le (by omega) (by omega)) hc)
          refine m_J_run hM 2 rfl ⟨trivial, trivial, trivial⟩ ?_
          refine m_J_getf hM rfl rfl (kZ hZ 0 rfl) (rfl) ?_
          refine m_J_run hM 1 rfl ⟨trivial, trivial⟩ ?_
          refine m_ialdN hM rfl (kZ hZ 10 rfl) (by omega) (by omega) ?_
          refine m_J_run hM 1 rfl ⟨trivial, trivial⟩ ?_
          refine m_J_if (fun h3 => ?_) (fun h3 => ?_)
          ·
            refine m_J_run hM 1 rfl ⟨trivial, trivial⟩ ?_
            exact m_iret hM rfl rfl (by decide) (Nat.le_of_ble_eq_true rfl) (Nat.le_of_ble_eq_true rfl) (by rw [y_gr, decide_eq_false (fun q => q.2.2 h3)]; rfl) (rfl)
          ·
            refine m_J_run hM 2 rfl ⟨trivial, trivial, trivial⟩ ?_
            exact m_iret hM rfl rfl (by decide) (Nat.le_of_ble_eq_true rfl) (Nat.le_of_ble_eq_true rfl) (by rw [y_gr, decide_eq_true ⟨h1, h2, h3⟩]; rfl) (rfl)
        | succ n9 ih =>
          intro t  hi 
          refine m_J_run hM 3 rfl ⟨trivial, trivial, trivial, trivial⟩ ?_
          refine m_J_if (fun hc => absurd hc (nI_ge (by omega) (by omega))) (fun _ => ?_)
          refine m_J_run hM 3 rfl ⟨trivial, trivial, trivial, trivial⟩ ?_
          refine m_J_run hM 1 rfl ⟨trivial, trivial⟩ ?_
          refine m_J_if (fun h3 => ?_) (fun h3 => ?_)
          ·
            rw [nI_eq (by omega) (by omega)] at h3
            refine m_J_run hM 5 rfl ⟨trivial, trivial, trivial, trivial, trivial, trivial⟩ ?_
            rw [nI_add (y_gc aH aS u k s t) 0, nI_add t 1]
            have h9 := ih (t + 1) (by omega)
            rw [show y_gc aH aS u k s (t + 1) = (y_gc aH aS u k s t) + 0 by rw [y_gc, if_pos h3]] at h9
            exact h9
          ·
            rw [nI_eq (by omega) (by omega)] at h3
            refine m_J_run hM 1 rfl ⟨trivial, trivial⟩ ?_
            refine m_J_getf hM rfl rfl (kZ hZ 0 rfl) (rfl) ?_
            refine m_J_run hM 1 rfl ⟨trivial, trivial⟩ ?_
            refine m_ialdN hM rfl (kZ hZ 1 rfl) (by omega) (by omega) ?_
            refine m_J_run hM 1 rfl ⟨trivial, trivial⟩ ?_
            refine m_J_getf hM rfl rfl (kZ hZ 0 rfl) (rfl) ?_
            refine m_J_run hM 1 rfl ⟨trivial, trivial⟩ ?_
            refine m_ialdN hM rfl (kZ hZ 7 rfl) (by omega) (by omega) ?_
            refine m_J_run hM 1 rfl ⟨trivial, trivial⟩ ?_
            refine m_J_if (fun h4 => ?_) (fun h4 => ?_)
            ·
              refine m_J_run hM 5 rfl ⟨trivial, trivial, trivial, trivial, trivial, trivial⟩ ?_
              rw [nI_add (y_gc aH aS u k s t) 0, nI_add t 1]
              have h9 := ih (t + 1) (by omega)
              rw [show y_gc aH aS u k s (t + 1) = (y_gc aH aS u k s t) + 0 by rw [y_gc, if_neg h3, if_neg h4]] at h9
              exact h9
            ·
              have h4 := Classical.not_not.mp h4
              refine m_J_run hM 2 rfl ⟨trivial, trivial, trivial⟩ ?_
              refine m_cS2 hM rfl kw_X9_213 (y_apart (s := s) (t := t) (by omega) (by omega)) (Nat.le_of_ble_eq_true rfl) ?_
              refine m_J_run hM 1 rfl ⟨trivial, trivial⟩ ?_
              refine m_J_getf hM rfl rfl (kZ hZ 0 rfl) (rfl) ?_
              refine m_J_run hM 1 rfl ⟨trivial, trivial⟩ ?_
              refine m_ialdN hM rfl (kZ hZ 9 rfl) (by omega) (by omega) ?_
              refine m_J_run hM 1 rfl ⟨trivial, trivial⟩ ?_
              refine m_J_if (fun h5 => ?_) (fun h5 => ?_)
              ·
                refine m_J_run hM 5 rfl ⟨trivial, trivial, trivial, trivial, trivial, trivial⟩ ?_
                rw [nI_add (y_gc aH aS u k s t) 0, nI_add t 1]
                have h9 := ih (t + 1) (by omega)
                rw [show y_gc aH aS u k s (t + 1) = (y_gc aH aS u k s t) + 0 by rw [y_gc, if_neg h3, if_pos h4, if_pos h5]] at h9
                exact h9
              ·
                refine m_J_run hM 6 rfl ⟨trivial, trivial, trivial, trivial, trivial, trivial, trivial⟩ ?_
                rw [nI_add (y_gc aH aS u k s t) 1, nI_add t 1]
                have h9 := ih (t + 1) (by omega)
                rw [show y_gc aH aS u k s (t + 1) = (y_gc aH aS u k s t) + 1 by rw [y_gc, if_neg h3, if_pos h4, if_neg h5]] at h9
                exact h9
      exact LP 60 0  (by omega)
    ·
      refine m_J_run hM 1 rfl ⟨trivial, trivial⟩ ?_
      exact m_iret hM rfl rfl (by decide) (Nat.le_of_ble_eq_true rfl) (Nat.le_of_ble_eq_true rfl) (by rw [y_gr, decide_eq_false (fun q => h2 q.2.1)]; rfl) (rfl)
set_option maxHeartbeats 2000000 in
theorem y_years (hZ : Z.length = 70) {n B : Nat} (hn : n ≤ 20) (hB1 : B ≤ n) (hB2 : yr + B ≤ 1000) (hB3 : B = n ∨ yr + B = 1000) (hls : ls ≤ 14) : m_Dt l (m_EX E N xs) E mM_X9_years (d + 2) 0 0 [.ref 70, .int (nI n)] (Z ++ k_M th u so fz fs gt yr aK aO aT aH aW aS aL ls pl ps tp td pt en bg fa fv mt nx pL sg bo wa gv bw of o) tg (some (.int (nI (yr + B)))) (Z ++ k_M (nI 0) ((y_ys aK aO aT aH aS aL ls u nx B).1) so fz fs gt (yr + B) aK aO aT aH aW aS aL ls pl ps tp td pt en bg fa fv mt ((y_ys aK aO aT aH aS aL ls u nx B).2) pL sg bo wa gv bw of o) tg := by
  have hM := mM_X9_years_ok
  refine m_Sp_of (by decide) (Nat.le_of_ble_eq_true rfl) ?_
  refine m_J_run hM 2 rfl ⟨trivial, trivial, trivial⟩ ?_
  refine m_J_putf hM rfl rfl (kZ hZ 0 rfl) (rfl) ?_
  refine m_J_eqH (H' := (Z ++ k_M (nI 0) u so fz fs gt yr aK aO aT aH aW aS aL ls pl ps tp td pt en bg fa fv mt nx pL sg bo wa gv bw of o)) (kZs hZ 0 rfl) ?_
  refine m_J_run hM 4 rfl ⟨trivial, trivial, trivial, trivial, trivial⟩ ?_
  refine m_cS3 hM rfl kw_X9_82 (y_in) (Nat.le_of_ble_eq_true rfl) ?_
  rw [show k_im (nI n) (nI 0) (nI 20) = true by rw [k_imN (by omega) (by omega) (by omega)]; simp; omega]
  refine m_J_run hM 1 rfl ⟨trivial, trivial⟩ ?_
  refine m_J_if (fun _ => ?_) (fun hc => absurd (by decide) hc)
  refine m_J_run hM 2 rfl ⟨trivial, trivial, trivial⟩ ?_
  refine m_cV2 hZ hM rfl kw_X9_99 rfl rfl rfl (y_tif hZ (b := false) (x := nI 1)) rfl (Nat.le_of_ble_eq_true rfl) ?_
  refine m_J_eqH (H' := (Z ++ k_M (nI 0) u so fz fs gt yr aK aO aT aH aW aS aL ls pl ps tp td pt en bg fa fv mt nx pL sg bo wa gv bw of o)) rfl ?_
  refine m_J_run hM 1 rfl ⟨trivial, trivial⟩ ?_
  refine m_J_if (fun _ => ?_) (fun hc => absurd (by decide) hc)
  refine m_J_run hM 2 rfl ⟨trivial, trivial, trivial⟩ ?_
  have LP : ∀ (n9 i : Nat) (w3 : Option Value) (w4 : Option Value), i + n9 = B → m_J l (m_EX E N xs) E mM_X9_years (d + 2) 0 0 (m_K (some (.int (nI (yr + B)))) (Z ++ k_M (nI 0) ((y_ys aK aO aT aH aS aL ls u nx B).1) so fz fs gt (yr + B) aK aO aT aH aW aS aL ls pl ps tp td pt en bg fa fv mt ((y_ys aK aO aT aH aS aL ls u nx B).2) pL sg bo wa gv bw of o) tg) m_no tg 0 0 (32, [some (.ref 70), some (.int (nI n)), some (.int (nI i)), w3, w4], [], (Z ++ k_M (nI 0) ((y_ys aK aO aT aH aS aL ls u nx i).1) so fz fs gt (yr + i) aK aO aT aH aW aS aL ls pl ps tp td pt en bg fa fv mt ((y_ys aK aO aT aH aS aL ls u nx i).2) pL sg bo wa gv bw of o)) := by
    intro n9
    induction n9 with
    | zero =>
      intro i w3 w4 hi 
      have e9 : i = B := by omega
      rw [e9]
      refine m_J_run hM 2 rfl ⟨trivial, trivial, trivial⟩ ?_
      refine m_J_run hM 1 rfl ⟨trivial, trivial⟩ ?_
      refine m_J_if (fun h5 => ?_) (fun h5 => ?_)
      ·
        rw [nI_leI (by omega) (by omega)] at h5
        refine m_J_run hM 1 rfl ⟨trivial, trivial⟩ ?_
        refine m_J_getf hM rfl rfl (kZ hZ 0 rfl) (rfl) ?_
        exact m_iret hM rfl rfl (rfl) (Nat.le_of_ble_eq_true rfl) (Nat.le_of_ble_eq_true rfl) (rfl) (rfl)
      ·
        rw [nI_leI (by omega) (by omega)] at h5
        refine m_J_run hM 1 rfl ⟨trivial, trivial⟩ ?_
        refine m_J_getf hM rfl rfl (kZ hZ 0 rfl) (rfl) ?_
        refine m_J_run hM 2 rfl ⟨trivial, trivial, trivial⟩ ?_
        refine m_J_if (fun _ => ?_) (fun hc => absurd (nI_le (by omega) (by omega)) hc)
        refine m_J_run hM 1 rfl ⟨trivial, trivial⟩ ?_
        refine m_J_getf hM rfl rfl (kZ hZ 0 rfl) (rfl) ?_
        exact m_iret hM rfl rfl (rfl) (Nat.le_of_ble_eq_true rfl) (Nat.le_of_ble_eq_true rfl) (rfl) (rfl)
    | succ n9 ih =>
      intro i w3 w4 hi 
      refine m_J_run hM 3 rfl ⟨trivial, trivial, trivial, trivial⟩ ?_
      refine m_J_if (fun hc => absurd hc (nI_ge (by omega) (by omega))) (fun _ => ?_)
      refine m_J_run hM 1 rfl ⟨trivial, trivial⟩ ?_
      refine m_J_getf hM rfl rfl (kZ hZ 0 rfl) (rfl) ?_
      refine m_J_run hM 2 rfl ⟨trivial, trivial, trivial⟩ ?_
      refine m_J_if (fun hc => absurd hc (nI_ge (by omega) (by omega))) (fun _ => ?_)
      refine m_J_run hM 2 rfl ⟨trivial, trivial, trivial⟩ ?_
      refine m_J_getf hM rfl rfl (kZ hZ 0 rfl) (rfl) ?_
      refine m_J_run hM 2 rfl ⟨trivial, trivial, trivial⟩ ?_
      rw [nI_add (yr + i) 1]
      refine m_J_putf hM rfl rfl (kZ hZ 0 rfl) (rfl) ?_
      refine m_J_eqH (H' := (Z ++ k_M (nI 0) ((y_ys aK aO aT aH aS aL ls u nx i).1) so fz fs gt ((yr + i) + 1) aK aO aT aH aW aS aL ls pl ps tp td pt en bg fa fv mt ((y_ys aK aO aT aH aS aL ls u nx i).2) pL sg bo wa gv bw of o)) (kZs hZ 0 rfl) ?_
      refine m_J_run hM 2 rfl ⟨trivial, trivial, trivial⟩ ?_
      generalize hU : y_ys aK aO aT aH aS aL ls u nx i = U
      have LA : ∀ (a9 s : Nat) (w4 : Option Value), s + a9 = 60 → m_J l (m_EX E N xs) E mM_X9_years (d + 2) 0 0 (m_K (some (.int (nI (yr + B)))) (Z ++ k_M (nI 0) ((y_ys aK aO aT aH aS aL ls u nx B).1) so fz fs gt (yr + B) aK aO aT aH aW aS aL ls pl ps tp td pt en bg fa fv mt ((y_ys aK aO aT aH aS aL ls u nx B).2) pL sg bo wa gv bw of o) tg) m_no tg 0 0 (59, [some (.ref 70), some (.int (nI n)), some (.int (nI i)), some (.int (nI s)), w4], [], (Z ++ k_M (nI 0) U.1 so fz fs gt ((yr + i) + 1) aK aO aT aH aW aS aL ls pl ps tp td pt en bg fa fv mt (k_upto (y_ny aK aO aT aH aS aL ls U.1) U.2 s) pL sg bo wa gv bw of o)) := by
        intro a9
        induction a9 with
        | zero =>
          intro s w4 ha 
          have e9 : s = 60 := by omega
          rw [e9]
          refine m_J_run hM 3 rfl ⟨trivial, trivial, trivial, trivial⟩ ?_
          refine m_J_if (fun _ => ?_) (fun hc => absurd (nI_le (by omega) (by omega)) hc)
          refine m_J_run hM 2 rfl ⟨trivial, trivial, trivial⟩ ?_
          have LC : ∀ (c9 s : Nat), s + c9 = 60 → m_J l (m_EX E N xs) E mM_X9_years (d + 2) 0 0 (m_K (some (.int (nI (yr + B)))) (Z ++ k_M (nI 0) ((y_ys aK aO aT aH aS aL ls u nx B).1) so fz fs gt (yr + B) aK aO aT aH aW aS aL ls pl ps tp td pt en bg fa fv mt ((y_ys aK aO aT aH aS aL ls u nx B).2) pL sg bo wa gv bw of o) tg) m_no tg 0 0 (127, [some (.ref 70), some (.int (nI n)), some (.int (nI i)), some (.int (nI s)), w4], [], (Z ++ k_M (nI 0) (k_upto (k_upto (y_ny aK aO aT aH aS aL ls U.1) U.2 60) U.1 s) so fz fs gt ((yr + i) + 1) aK aO aT aH aW aS aL ls pl ps tp td pt en bg fa fv mt (k_upto (y_ny aK aO aT aH aS aL ls U.1) U.2 60) pL sg bo wa gv bw of o)) := by
            intro c9
            induction c9 with
            | zero =>
              intro s  hc 
              have e9 : s = 60 := by omega
              rw [e9]
              refine m_J_run hM 3 rfl ⟨trivial, trivial, trivial, trivial⟩ ?_
              refine m_J_if (fun _ => ?_) (fun hc => absurd (nI_le (by omega) (by omega)) hc)
              refine m_J_run hM 2 rfl ⟨trivial, trivial, trivial⟩ ?_
              rw [nI_add i 1]
              have h9 := ih (i + 1) (some (.int (nI 60))) w4 (by omega)
              rw [y_ys, hU, ← k_upto_2 (y_ny aK aO aT aH aS aL ls U.1) U.2 U.1 60, ← Nat.add_assoc yr i 1] at h9
              exact h9
            | succ c9 ihc =>
              intro s  hc 
              refine m_J_run hM 3 rfl ⟨trivial, trivial, trivial, trivial⟩ ?_
              refine m_J_if (fun hc => absurd hc (nI_ge (by omega) (by omega))) (fun _ => ?_)
              refine m_J_run hM 1 rfl ⟨trivial, trivial⟩ ?_
              refine m_J_getf hM rfl rfl (kZ hZ 0 rfl) (rfl) ?_
              refine m_J_run hM 2 rfl ⟨trivial, trivial, trivial⟩ ?_
              refine m_J_getf hM rfl rfl (kZ hZ 0 rfl) (rfl) ?_
              refine m_J_run hM 1 rfl ⟨trivial, trivial⟩ ?_
              refine m_ialdN hM rfl (kZ hZ 15 rfl) (by omega) (by omega) ?_
              refine m_iastN hM rfl (kZ hZ 1 rfl) (by omega) (by omega) ?_
              refine m_J_eqH (H' := (Z ++ k_M (nI 0) (upd (k_upto (k_upto (y_ny aK aO aT aH aS aL ls U.1) U.2 60) U.1 s) s (k_upto (y_ny aK aO aT aH aS aL ls U.1) U.2 60 s)) so fz fs gt ((yr + i) + 1) aK aO aT aH aW aS aL ls pl ps tp td pt en bg fa fv mt (k_upto (y_ny aK aO aT aH aS aL ls U.1) U.2 60) pL sg bo wa gv bw of o)) (kZs hZ 1 (rfl)) ?_
              refine m_J_run hM 2 rfl ⟨trivial, trivial, trivial⟩ ?_
              rw [nI_add s 1]
              have h9 := ihc (s + 1) (by omega)
              rw [show k_upto (k_upto (y_ny aK aO aT aH aS aL ls U.1) U.2 60) U.1 (s + 1) = upd (k_upto (k_upto (y_ny aK aO aT aH aS aL ls U.1) U.2 60) U.1 s) s (k_upto (y_ny aK aO aT aH aS aL ls U.1) U.2 60 s) from (k_upto_I _ _ _).symm] at h9
              exact h9
          have h9 := LC 60 0 (by omega)
          rw [k_upto_0] at h9
          exact h9
        | succ a9 iha =>
          intro s w4 ha 
          refine m_J_run hM 3 rfl ⟨trivial, trivial, trivial, trivial⟩ ?_
          refine m_J_if (fun hc => absurd hc (nI_ge (by omega) (by omega))) (fun _ => ?_)
          refine m_J_run hM 1 rfl ⟨trivial, trivial⟩ ?_
          refine m_J_getf hM rfl rfl (kZ hZ 0 rfl) (rfl) ?_
          refine m_J_run hM 2 rfl ⟨trivial, trivial, trivial⟩ ?_
          refine m_J_getf hM rfl rfl (kZ hZ 0 rfl) (rfl) ?_
          refine m_J_run hM 1 rfl ⟨trivial, trivial⟩ ?_
          refine m_ialdN hM rfl (kZ hZ 1 rfl) (by omega) (by omega) ?_
          refine m_iastN hM rfl (kZ hZ 15 rfl) (by omega) (by omega) ?_
          refine m_J_eqH (H' := (Z ++ k_M (nI 0) U.1 so fz fs gt ((yr + i) + 1) aK aO aT aH aW aS aL ls pl ps tp td pt en bg fa fv mt (upd (k_upto (y_ny aK aO aT aH aS aL ls U.1) U.2 s) s (U.1 s)) pL sg bo wa gv bw of o)) (kZs hZ 15 (rfl)) ?_
          refine m_J_run hM 1 rfl ⟨trivial, trivial⟩ ?_
          refine m_J_getf hM rfl rfl (kZ hZ 0 rfl) (rfl) ?_
          refine m_J_run hM 3 rfl ⟨trivial, trivial, trivial, trivial⟩ ?_
          have LI : ∀ (i9 m : Nat), m + i9 = ls → m_J l (m_EX E N xs) E mM_X9_years (d + 2) 0 0 (m_K (some (.int (nI (yr + B)))) (Z ++ k_M (nI 0) ((y_ys aK aO aT aH aS aL ls u nx B).1) so fz fs gt (yr + B) aK aO aT aH aW aS aL ls pl ps tp td pt en bg fa fv mt ((y_ys aK aO aT aH aS aL ls u nx B).2) pL sg bo wa gv bw of o) tg) m_no tg 0 0 (85, [some (.ref 70), some (.int (nI n)), some (.int (nI i)), some (.int (nI s)), some (.int (nI (ls - m) - nI 1))], [], (Z ++ k_M (nI 0) U.1 so fz fs gt ((yr + i) + 1) aK aO aT aH aW aS aL ls pl ps tp td pt en bg fa fv mt (upd (k_upto (y_ny aK aO aT aH aS aL ls U.1) U.2 s) s (y_nv (fun k => y_gr aK aO aH aS aL U.1 k s) aT (U.1 s) ls m)) pL sg bo wa gv bw of o)) := by
            intro i9
            induction i9 with
            | zero =>
              intro m  hm 
              have e9 : m = ls := by omega
              rw [e9]
              rw [Nat.sub_self]
              refine m_J_run hM 2 rfl ⟨trivial, trivial, trivial⟩ ?_
              refine m_J_if (fun _ => ?_) (fun hc => absurd (by decide) hc)
              refine m_J_run hM 2 rfl ⟨trivial, trivial, trivial⟩ ?_
              rw [nI_add s 1]
              have h9 := iha (s + 1) (some (.int (nI 0 - nI 1))) (by omega)
              rw [show k_upto (y_ny aK aO aT aH aS aL ls U.1) U.2 (s + 1) = upd (k_upto (y_ny aK aO aT aH aS aL ls U.1) U.2 s) s (y_nv (fun k => y_gr aK aO aH aS aL U.1 k s) aT (U.1 s) ls ls) from (k_upto_I _ _ _).symm] at h9
              exact h9
            | succ i9 ihi =>
              intro m  hm 
              rw [show nI (ls - m) - nI 1 = nI (ls - m - 1) from pk_sub (by omega)]
              refine m_J_run hM 2 rfl ⟨trivial, trivial, trivial⟩ ?_
              refine m_J_if (fun hc => absurd hc (nI_pos (by omega))) (fun _ => ?_)
              refine m_J_run hM 3 rfl ⟨trivial, trivial, trivial, trivial⟩ ?_
              refine m_cV2 hZ hM rfl kw_X9_247 rfl rfl rfl (y_grows hZ (by omega) (by omega)) rfl (Nat.le_of_ble_eq_true rfl) ?_
              cases h5 : y_gr aK aO aH aS aL U.1 (ls - m - 1) s with
              | false =>
                refine m_J_run hM 1 rfl ⟨trivial, trivial⟩ ?_
                refine m_J_if (fun _ => ?_) (fun hc => absurd (by decide) hc)
                refine m_J_run hM 2 rfl ⟨trivial, trivial, trivial⟩ ?_
                have h9 := ihi (m + 1) (by omega)
                rw [show nI (ls - (m + 1)) - nI 1 = nI (ls - m - 1) + -nI 1 by rw [Int32.sub_eq_add_neg, show ls - (m + 1) = ls - m - 1 by omega]] at h9
                rw [show (y_nv (fun k => y_gr aK aO aH aS aL U.1 k s) aT (U.1 s) ls (m + 1)) = (y_nv (fun k => y_gr aK aO aH aS aL U.1 k s) aT (U.1 s) ls m) by rw [y_nv, if_neg (by rw [h5]; decide)]] at h9
                exact h9
              | true =>
                refine m_J_run hM 1 rfl ⟨trivial, trivial⟩ ?_
                refine m_J_if (fun hc => absurd hc (by decide)) (fun _ => ?_)
                refine m_J_run hM 1 rfl ⟨trivial, trivial⟩ ?_
                refine m_J_getf hM rfl rfl (kZ hZ 0 rfl) (rfl) ?_
                refine m_J_run hM 2 rfl ⟨trivial, trivial, trivial⟩ ?_
                refine m_J_getf hM rfl rfl (kZ hZ 0 rfl) (rfl) ?_
                refine m_J_run hM 1 rfl ⟨trivial, trivial⟩ ?_
                refine m_ialdN hM rfl (kZ hZ 6 rfl) (by omega) (by omega) ?_
                refine m_iastN hM rfl (kZ hZ 15 rfl) (by omega) (by omega) ?_
                refine m_J_eqH (H' := (Z ++ k_M (nI 0) U.1 so fz fs gt ((yr + i) + 1) aK aO aT aH aW aS aL ls pl ps tp td pt en bg fa fv mt (upd (upd (k_upto (y_ny aK aO aT aH aS aL ls U.1) U.2 s) s (y_nv (fun k => y_gr aK aO aH aS aL U.1 k s) aT (U.1 s) ls m)) s (aT (ls - m - 1))) pL sg bo wa gv bw of o)) (kZs hZ 15 (rfl)) ?_
                refine m_J_run hM 2 rfl ⟨trivial, trivial, trivial⟩ ?_
                rw [k_uu]
                have h9 := ihi (m + 1) (by omega)
                rw [show nI (ls - (m + 1)) - nI 1 = nI (ls - m - 1) + -nI 1 by rw [Int32.sub_eq_add_neg, show ls - (m + 1) = ls - m - 1 by omega]] at h9
                rw [show (y_nv (fun k => y_gr aK aO aH aS aL U.1 k s) aT (U.1 s) ls (m + 1)) = aT (ls - m - 1) by rw [y_nv, if_pos h5]] at h9
                exact h9
          exact LI ls 0 (by omega)
      have h9 := LA 60 0 w4 (by omega)
      rw [k_upto_0] at h9
      exact h9
  exact LP B 0 _ _ (by omega)
set_option maxHeartbeats 2000000 in
theorem y_years_x (hZ : Z.length = 70) {x : Int32} (hx : k_im x (nI 0) (nI 20) = false) : m_Dt l (m_EX E N xs) E mM_X9_years (d + 2) 0 0 [.ref 70, .int x] (Z ++ k_M th u so fz fs gt yr aK aO aT aH aW aS aL ls pl ps tp td pt en bg fa fv mt nx pL sg bo wa gv bw of o) tg (some (.int (nI 0))) (Z ++ k_M (nI 1) u so fz fs gt yr aK aO aT aH aW aS aL ls pl ps tp td pt en bg fa fv mt nx pL sg bo wa gv bw of o) tg := by
  have hM := mM_X9_years_ok
  refine m_Sp_of (by decide) (Nat.le_of_ble_eq_true rfl) ?_
  refine m_J_run hM 2 rfl ⟨trivial, trivial, trivial⟩ ?_
  refine m_J_putf hM rfl rfl (kZ hZ 0 rfl) (rfl) ?_
  refine m_J_eqH (H' := (Z ++ k_M (nI 0) u so fz fs gt yr aK aO aT aH aW aS aL ls pl ps tp td pt en bg fa fv mt nx pL sg bo wa gv bw of o)) (kZs hZ 0 rfl) ?_
  refine m_J_run hM 4 rfl ⟨trivial, trivial, trivial, trivial, trivial⟩ ?_
  refine m_cS3 hM rfl kw_X9_82 (y_in) (Nat.le_of_ble_eq_true rfl) ?_
  rw [hx]
  refine m_J_run hM 1 rfl ⟨trivial, trivial⟩ ?_
  refine m_J_if (fun hc => absurd hc (by decide)) (fun _ => ?_)
  refine m_J_run hM 3 rfl ⟨trivial, trivial, trivial, trivial⟩ ?_
  refine m_cV2 hZ hM rfl kw_X9_99 rfl rfl rfl (y_tif hZ (b := true) (x := nI 1)) rfl (Nat.le_of_ble_eq_true rfl) ?_
  refine m_J_eqH (H' := (Z ++ k_M (nI 1) u so fz fs gt yr aK aO aT aH aW aS aL ls pl ps tp td pt en bg fa fv mt nx pL sg bo wa gv bw of o)) rfl ?_
  refine m_J_run hM 1 rfl ⟨trivial, trivial⟩ ?_
  refine m_J_if (fun hc => absurd hc (by decide)) (fun _ => ?_)
  refine m_J_run hM 1 rfl ⟨trivial, trivial⟩ ?_
  exact m_iret hM rfl rfl (rfl) (Nat.le_of_ble_eq_true rfl) (Nat.le_of_ble_eq_true rfl) (rfl) (rfl)
end
