/-! THE MODEL: its heap (written by wip/gen_model1.py) -/
def k_M (th : Int32) (u : Nat → Int32) (so : Nat → Int32) (fz : Nat → Bool) (fs : Nat) (gt : Nat) (yr : Nat) (aK : Nat → Int32) (aO : Nat → Int32) (aT : Nat → Int32) (aH : Nat → Int32) (aW : Nat → Int32) (aS : Nat → Int32) (aL : Nat → Int32) (ls : Nat) (pl : Nat → Int32) (ps : Nat) (tp : Nat → Int32) (td : Nat) (pt : Nat) (en : Nat) (bg : Nat) (fa : Int32) (fv : Nat → Int32) (mt : Nat → Bool) (nx : Nat → Int32) (pL : Nat → Nat) (sg : Nat → Int32) (bo : Nat → Int32) (wa : Nat → Int32) (gv : Nat → Int32) (bw : Int32) (of : Nat → Int32) (o : mH) : mH :=
  .inr (8, [.int th, .ref 71, .ref 72, .ref 73, .int (nI fs), .int (nI gt), .int (nI yr), .ref 74, .ref 75, .ref 76, .ref 77, .ref 78, .ref 79, .ref 80, .int (nI ls), .ref 81, .int (nI ps), .ref 82, .int (nI td), .int (nI pt), .int (nI en), .int (nI bg), .int fa, .ref 83, .ref 84, .ref 85, .ref 86, .ref 87, .ref 88, .ref 89, .ref 90, .int bw, .ref 91]) ::
  k_ia 60 u ::
  k_ia 60 so ::
  k_za 60 (fun i => k_z (fz i)) ::
  k_ia 28 aK ::
  k_ia 28 aO ::
  k_ia 28 aT ::
  k_ia 28 aH ::
  k_ia 28 aW ::
  k_ia 28 aS ::
  k_ia 28 aL ::
  k_ia 360 pl ::
  k_ba 400 tp ::
  k_ia 5 fv ::
  k_za 60 (fun i => k_z (mt i)) ::
  k_ia 60 nx ::
  k_ia 5 (fun i => nI (pL i)) ::
  k_ia 25 sg ::
  k_ia 625 bo ::
  k_ia 5 wa ::
  k_ia 5 gv ::
  k_ia 60 of :: o
theorem kZ {Z B : mH} {c : va_E} (hZ : Z.length = 70) (j : Nat) (hj : B[j]? = some c) : (Z ++ B)[70 + j]? = some c := by rw [← hZ, List.getElem?_append_right (Nat.le_add_right _ _), Nat.add_sub_cancel_left]; exact hj
theorem kZs {Z B B2 : mH} {c : va_E} (hZ : Z.length = 70) (j : Nat) (hj : B.set j c = B2) : (Z ++ B).set (70 + j) c = Z ++ B2 := by rw [List.set_append_right _ _ (by omega), show 70 + j - Z.length = j by omega, hj]
def k_ub (f : Nat → Bool) (k : Nat) (b : Bool) : Nat → Bool := fun j => if j = k then b else f j
theorem k_uZ (f : Nat → Bool) (k : Nat) (b : Bool) : upd (fun i => k_z (f i)) k (vp_nar .boolean (k_z b)) = fun i => k_z (k_ub f k b i) := by
  funext j
  have e : vp_nar .boolean (k_z b) = k_z b := by cases b <;> decide
  rw [e]
  by_cases h : j = k
  · subst h; simp [upd, k_ub]
  · simp [upd, k_ub, h]
theorem k_uN (f : Nat → Nat) (k v : Nat) : upd (fun i => nI (f i)) k (nI v) = fun i => nI (if i = k then v else f i) := by
  funext j
  by_cases h : j = k
  · subst h; simp [upd]
  · simp [upd, h]
section
variable {l : Launch} {E : mE} {N : Nat} {xs : Nat → Int32} {d : Nat} {tg : Bool} {Z : mH}
variable {th : Int32} {u : Nat → Int32} {so : Nat → Int32} {fz : Nat → Bool} {fs : Nat} {gt : Nat} {yr : Nat} {aK : Nat → Int32} {aO : Nat → Int32} {aT : Nat → Int32} {aH : Nat → Int32} {aW : Nat → Int32} {aS : Nat → Int32} {aL : Nat → Int32} {ls : Nat} {pl : Nat → Int32} {ps : Nat} {tp : Nat → Int32} {td : Nat} {pt : Nat} {en : Nat} {bg : Nat} {fa : Int32} {fv : Nat → Int32} {mt : Nat → Bool} {nx : Nat → Int32} {pL : Nat → Nat} {sg : Nat → Int32} {bo : Nat → Int32} {wa : Nat → Int32} {gv : Nat → Int32} {bw : Int32} {of : Nat → Int32} {o : mH}
set_option maxHeartbeats 4000000 in
set_option maxRecDepth 4000 in
theorem c_model (hZ : Z.length = 70) : m_Dt l (m_EX E N xs) E mM_X9_init (d + 1) 21 1986 [.ref 70] (Z ++ [.inr (8, [.int (nI 0), .null, .null, .null, .int (nI 0), .int (nI 0), .int (nI 0), .null, .null, .null, .null, .null, .null, .null, .int (nI 0), .null, .int (nI 0), .null, .int (nI 0), .int (nI 0), .int (nI 0), .int (nI 0), .int (nI 0), .null, .null, .null, .null, .null, .null, .null, .null, .int (nI 0), .null])]) true none (Z ++ k_M (nI 0) (fun _ => nI 0) (fun _ => nI 0) (fun _ => false) 0 0 0 (fun _ => nI 0) (fun _ => nI 0) (fun _ => nI 0) (fun _ => nI 0) (fun _ => nI 0) (fun _ => nI 0) (fun _ => nI 0) 0 (fun _ => nI 0) 0 (fun _ => nI 0) 0 0 0 0 (-nI 1) (fun _ => nI 0) (fun _ => false) (fun _ => nI 0) (fun _ => 0) (fun _ => nI 0) (fun _ => nI 0) (fun _ => nI 0) (fun _ => nI 0) (nI 0) (fun _ => nI 0) []) true := by
  have hM := mM_X9_init_ok
  refine m_Sp_of (by decide) (Nat.le_of_ble_eq_true rfl) ?_
  refine m_J_run hM 1 rfl ⟨trivial, trivial⟩ ?_
  refine m_J_obj hM rfl kw_X9_1 (Nat.le_of_ble_eq_true rfl) ?_
  refine m_J_run hM 2 rfl ⟨trivial, trivial, trivial⟩ ?_
  refine m_newI (K := 60) hM rfl (by omega) (by simp [hZ]) (Nat.le_of_ble_eq_true rfl) (Nat.le_of_ble_eq_true rfl) ?_
  refine m_J_S (S2 := (9, [some (.ref 70)], [.ref 71, .ref 70], Z ++ [.inr (8, [.int (nI 0), .null, .null, .null, .int (nI 0), .int (nI 0), .int (nI 0), .null, .null, .null, .null, .null, .null, .null, .int (nI 0), .null, .int (nI 0), .null, .int (nI 0), .int (nI 0), .int (nI 0), .int (nI 0), .int (nI 0), .null, .null, .null, .null, .null, .null, .null, .null, .int (nI 0), .null]), k_ia 60 (fun _ => nI 0)])) (by first | (simp [hZ]; done) | (simp [hZ]; rfl)) ?_
  refine m_J_putc hM rfl rfl (kZ hZ 0 rfl) (rfl) (by decide) ?_
  refine m_J_S (S2 := (12, [some (.ref 70)], [], Z ++ [.inr (8, [.int (nI 0), .ref 71, .null, .null, .int (nI 0), .int (nI 0), .int (nI 0), .null, .null, .null, .null, .null, .null, .null, .int (nI 0), .null, .int (nI 0), .null, .int (nI 0), .int (nI 0), .int (nI 0), .int (nI 0), .int (nI 0), .null, .null, .null, .null, .null, .null, .null, .null, .int (nI 0), .null]), k_ia 60 (fun _ => nI 0)])) (by rw [show (70 : Nat) = 70 + 0 from rfl, kZs hZ 0 rfl]; rfl) ?_
  refine m_J_run hM 2 rfl ⟨trivial, trivial, trivial⟩ ?_
  refine m_newI (K := 60) hM rfl (by omega) (by simp [hZ]) (Nat.le_of_ble_eq_true rfl) (Nat.le_of_ble_eq_true rfl) ?_
  refine m_J_S (S2 := (17, [some (.ref 70)], [.ref 72, .ref 70], Z ++ [.inr (8, [.int (nI 0), .ref 71, .null, .null, .int (nI 0), .int (nI 0), .int (nI 0), .null, .null, .null, .null, .null, .null, .null, .int (nI 0), .null, .int (nI 0), .null, .int (nI 0), .int (nI 0), .int (nI 0), .int (nI 0), .int (nI 0), .null, .null, .null, .null, .null, .null, .null, .null, .int (nI 0), .null]), k_ia 60 (fun _ => nI 0), k_ia 60 (fun _ => nI 0)])) (by first | (simp [hZ]; done) | (simp [hZ]; rfl)) ?_
  refine m_J_putc hM rfl rfl (kZ hZ 0 rfl) (rfl) (by decide) ?_
  refine m_J_S (S2 := (20, [some (.ref 70)], [], Z ++ [.inr (8, [.int (nI 0), .ref 71, .ref 72, .null, .int (nI 0), .int (nI 0), .int (nI 0), .null, .null, .null, .null, .null, .null, .null, .int (nI 0), .null, .int (nI 0), .null, .int (nI 0), .int (nI 0), .int (nI 0), .int (nI 0), .int (nI 0), .null, .null, .null, .null, .null, .null, .null, .null, .int (nI 0), .null]), k_ia 60 (fun _ => nI 0), k_ia 60 (fun _ => nI 0)])) (by rw [show (70 : Nat) = 70 + 0 from rfl, kZs hZ 0 rfl]; rfl) ?_
  refine m_J_run hM 2 rfl ⟨trivial, trivial, trivial⟩ ?_
  refine m_newZ (K := 60) hM rfl (by omega) (by simp [hZ]) (Nat.le_of_ble_eq_true rfl) (Nat.le_of_ble_eq_true rfl) ?_
  refine m_J_S (S2 := (25, [some (.ref 70)], [.ref 73, .ref 70], Z ++ [.inr (8, [.int (nI 0), .ref 71, .ref 72, .null, .int (nI 0), .int (nI 0), .int (nI 0), .null, .null, .null, .null, .null, .null, .null, .int (nI 0), .null, .int (nI 0), .null, .int (nI 0), .int (nI 0), .int (nI 0), .int (nI 0), .int (nI 0), .null, .null, .null, .null, .null, .null, .null, .null, .int (nI 0), .null]), k_ia 60 (fun _ => nI 0), k_ia 60 (fun _ => nI 0), k_za 60 (fun _ => nI 0)])) (by first | (simp [hZ]; done) | (simp [hZ]; rfl)) ?_
  refine m_J_putc hM rfl rfl (kZ hZ 0 rfl) (rfl) (by decide) ?_
  refine m_J_S (S2 := (28, [some (.ref 70)], [], Z ++ [.inr (8, [.int (nI 0), .ref 71, .ref 72, .ref 73, .int (nI 0), .int (nI 0), .int (nI 0), .null, .null, .null, .null, .null, .null, .null, .int (nI 0), .null, .int (nI 0), .null, .int (nI 0), .int (nI 0), .int (nI 0), .int (nI 0), .int (nI 0), .null, .null, .null, .null, .null, .null, .null, .null, .int (nI 0), .null]), k_ia 60 (fun _ => nI 0), k_ia 60 (fun _ => nI 0), k_za 60 (fun _ => nI 0)])) (by rw [show (70 : Nat) = 70 + 0 from rfl, kZs hZ 0 rfl]; rfl) ?_
  refine m_J_run hM 2 rfl ⟨trivial, trivial, trivial⟩ ?_
  refine m_newI (K := 28) hM rfl (by omega) (by simp [hZ]) (Nat.le_of_ble_eq_true rfl) (Nat.le_of_ble_eq_true rfl) ?_
  refine m_J_S (S2 := (33, [some (.ref 70)], [.ref 74, .ref 70], Z ++ [.inr (8, [.int (nI 0), .ref 71, .ref 72, .ref 73, .int (nI 0), .int (nI 0), .int (nI 0), .null, .null, .null, .null, .null, .null, .null, .int (nI 0), .null, .int (nI 0), .null, .int (nI 0), .int (nI 0), .int (nI 0), .int (nI 0), .int (nI 0), .null, .null, .null, .null, .null, .null, .null, .null, .int (nI 0), .null]), k_ia 60 (fun _ => nI 0), k_ia 60 (fun _ => nI 0), k_za 60 (fun _ => nI 0), k_ia 28 (fun _ => nI 0)])) (by first | (simp [hZ]; done) | (simp [hZ]; rfl)) ?_
  refine m_J_putc hM rfl rfl (kZ hZ 0 rfl) (rfl) (by decide) ?_
  refine m_J_S (S2 := (36, [some (.ref 70)], [], Z ++ [.inr (8, [.int (nI 0), .ref 71, .ref 72, .ref 73, .int (nI 0), .int (nI 0), .int (nI 0), .ref 74, .null, .null, .null, .null, .null, .null, .int (nI 0), .null, .int (nI 0), .null, .int (nI 0), .int (nI 0), .int (nI 0), .int (nI 0), .int (nI 0), .null, .null, .null, .null, .null, .null, .null, .null, .int (nI 0), .null]), k_ia 60 (fun _ => nI 0), k_ia 60 (fun _ => nI 0), k_za 60 (fun _ => nI 0), k_ia 28 (fun _ => nI 0)])) (by rw [show (70 : Nat) = 70 + 0 from rfl, kZs hZ 0 rfl]; rfl) ?_
  refine m_J_run hM 2 rfl ⟨trivial, trivial, trivial⟩ ?_
  refine m_newI (K := 28) hM rfl (by omega) (by simp [hZ]) (Nat.le_of_ble_eq_true rfl) (Nat.le_of_ble_eq_true rfl) ?_
  refine m_J_S (S2 := (41, [some (.ref 70)], [.ref 75, .ref 70], Z ++ [.inr (8, [.int (nI 0), .ref 71, .ref 72, .ref 73, .int (nI 0), .int (nI 0), .int (nI 0), .ref 74, .null, .null, .null, .null, .null, .null, .int (nI 0), .null, .int (nI 0), .null, .int (nI 0), .int (nI 0), .int (nI 0), .int (nI 0), .int (nI 0), .null, .null, .null, .null, .null, .null, .null, .null, .int (nI 0), .null]), k_ia 60 (fun _ => nI 0), k_ia 60 (fun _ => nI 0), k_za 60 (fun _ => nI 0), k_ia 28 (fun _ => nI 0), k_ia 28 (fun _ => nI 0)])) (by first | (simp [hZ]; done) | (simp [hZ]; rfl)) ?_
  refine m_J_putc hM rfl rfl (kZ hZ 0 rfl) (rfl) (by decide) ?_
  refine m_J_S (S2 := (44, [some (.ref 70)], [], Z ++ [.inr (8, [.int (nI 0), .ref 71, .ref 72, .ref 73, .int (nI 0), .int (nI 0), .int (nI 0), .ref 74, .ref 75, .null, .null, .null, .null, .null, .int (nI 0), .null, .int (nI 0), .null, .int (nI 0), .int (nI 0), .int (nI 0), .int (nI 0), .int (nI 0), .null, .null, .null, .null, .null, .null, .null, .null, .int (nI 0), .null]), k_ia 60 (fun _ => nI 0), k_ia 60 (fun _ => nI 0), k_za 60 (fun _ => nI 0), k_ia 28 (fun _ => nI 0), k_ia 28 (fun _ => nI 0)])) (by rw [show (70 : Nat) = 70 + 0 from rfl, kZs hZ 0 rfl]; rfl) ?_
  refine m_J_run hM 2 rfl ⟨trivial, trivial, trivial⟩ ?_
  refine m_newI (K := 28) hM rfl (by omega) (by simp [hZ]) (Nat.le_of_ble_eq_true rfl) (Nat.le_of_ble_eq_true rfl) ?_
  refine m_J_S (S2 := (49, [some (.ref 70)], [.ref 76, .ref 70], Z ++ [.inr (8, [.int (nI 0), .ref 71, .ref 72, .ref 73, .int (nI 0), .int (nI 0), .int (nI 0), .ref 74, .ref 75, .null, .null, .null, .null, .null, .int (nI 0), .null, .int (nI 0), .null, .int (nI 0), .int (nI 0), .int (nI 0), .int (nI 0), .int (nI 0), .null, .null, .null, .null, .null, .null, .null, .null, .int (nI 0), .null]), k_ia 60 (fun _ => nI 0), k_ia 60 (fun _ => nI 0), k_za 60 (fun _ => nI 0), k_ia 28 (fun _ => nI 0), k_ia 28 (fun _ => nI 0), k_ia 28 (fun _ => nI 0)])) (by first | (simp [hZ]; done) | (simp [hZ]; rfl)) ?_
  refine m_J_putc hM rfl rfl (kZ hZ 0 rfl) (rfl) (by decide) ?_
  refine m_J_S (S2 := (52, [some (.ref 70)], [], Z ++ [.inr (8, [.int (nI 0), .ref 71, .ref 72, .ref 73, .int (nI 0), .int (nI 0), .int (nI 0), .ref 74, .ref 75, .ref 76, .null, .null, .null, .null, .int (nI 0), .null, .int (nI 0), .null, .int (nI 0), .int (nI 0), .int (nI 0), .int (nI 0), .int (nI 0), .null, .null, .null, .null, .null, .null, .null, .null, .int (nI 0), .null]), k_ia 60 (fun _ => nI 0), k_ia 60 (fun _ => nI 0), k_za 60 (fun _ => nI 0), k_ia 28 (fun _ => nI 0), k_ia 28 (fun _ => nI 0), k_ia 28 (fun _ => nI 0)])) (by rw [show (70 : Nat) = 70 + 0 from rfl, kZs hZ 0 rfl]; rfl) ?_
  refine m_J_run hM 2 rfl ⟨trivial, trivial, trivial⟩ ?_
  refine m_newI (K := 28) hM rfl (by omega) (by simp [hZ]) (Nat.le_of_ble_eq_true rfl) (Nat.le_of_ble_eq_true rfl) ?_
  refine m_J_S (S2 := (57, [some (.ref 70)], [.ref 77, .ref 70], Z ++ [.inr (8, [.int (nI 0), .ref 71, .ref 72, .ref 73, .int (nI 0), .int (nI 0), .int (nI 0), .ref 74, .ref 75, .ref 76, .null, .null, .null, .null, .int (nI 0), .null, .int (nI 0), .null, .int (nI 0), .int (nI 0), .int (nI 0), .int (nI 0), .int (nI 0), .null, .null, .null, .null, .null, .null, .null, .null, .int (nI 0), .null]), k_ia 60 (fun _ => nI 0), k_ia 60 (fun _ => nI 0), k_za 60 (fun _ => nI 0), k_ia 28 (fun _ => nI 0), k_ia 28 (fun _ => nI 0), k_ia 28 (fun _ => nI 0), k_ia 28 (fun _ => nI 0)])) (by first | (simp [hZ]; done) | (simp [hZ]; rfl)) ?_
  refine m_J_putc hM rfl rfl (kZ hZ 0 rfl) (rfl) (by decide) ?_
  refine m_J_S (S2 := (60, [some (.ref 70)], [], Z ++ [.inr (8, [.int (nI 0), .ref 71, .ref 72, .ref 73, .int (nI 0), .int (nI 0), .int (nI 0), .ref 74, .ref 75, .ref 76, .ref 77, .null, .null, .null, .int (nI 0), .null, .int (nI 0), .null, .int (nI 0), .int (nI 0), .int (nI 0), .int (nI 0), .int (nI 0), .null, .null, .null, .null, .null, .null, .null, .null, .int (nI 0), .null]), k_ia 60 (fun _ => nI 0), k_ia 60 (fun _ => nI 0), k_za 60 (fun _ => nI 0), k_ia 28 (fun _ => nI 0), k_ia 28 (fun _ => nI 0), k_ia 28 (fun _ => nI 0), k_ia 28 (fun _ => nI 0)])) (by rw [show (70 : Nat) = 70 + 0 from rfl, kZs hZ 0 rfl]; rfl) ?_
  refine m_J_run hM 2 rfl ⟨trivial, trivial, trivial⟩ ?_
  refine m_newI (K := 28) hM rfl (by omega) (by simp [hZ]) (Nat.le_of_ble_eq_true rfl) (Nat.le_of_ble_eq_true rfl) ?_
  refine m_J_S (S2 := (65, [some (.ref 70)], [.ref 78, .ref 70], Z ++ [.inr (8, [.int (nI 0), .ref 71, .ref 72, .ref 73, .int (nI 0), .int (nI 0), .int (nI 0), .ref 74, .ref 75, .ref 76, .ref 77, .null, .null, .null, .int (nI 0), .null, .int (nI 0), .null, .int (nI 0), .int (nI 0), .int (nI 0), .int (nI 0), .int (nI 0), .null, .null, .null, .null, .null, .null, .null, .null, .int (nI 0), .null]), k_ia 60 (fun _ => nI 0), k_ia 60 (fun _ => nI 0), k_za 60 (fun _ => nI 0), k_ia 28 (fun _ => nI 0), k_ia 28 (fun _ => nI 0), k_ia 28 (fun _ => nI 0), k_ia 28 (fun _ => nI 0), k_ia 28 (fun _ => nI 0)])) (by first | (simp [hZ]; done) | (simp [hZ]; rfl)) ?_
  refine m_J_putc hM rfl rfl (kZ hZ 0 rfl) (rfl) (by decide) ?_
  refine m_J_S (S2 := (68, [some (.ref 70)], [], Z ++ [.inr (8, [.int (nI 0), .ref 71, .ref 72, .ref 73, .int (nI 0), .int (nI 0), .int (nI 0), .ref 74, .ref 75, .ref 76, .ref 77, .ref 78, .null, .null, .int (nI 0), .null, .int (nI 0), .null, .int (nI 0), .int (nI 0), .int (nI 0), .int (nI 0), .int (nI 0), .null, .null, .null, .null, .null, .null, .null, .null, .int (nI 0), .null]), k_ia 60 (fun _ => nI 0), k_ia 60 (fun _ => nI 0), k_za 60 (fun _ => nI 0), k_ia 28 (fun _ => nI 0), k_ia 28 (fun _ => nI 0), k_ia 28 (fun _ => nI 0), k_ia 28 (fun _ => nI 0), k_ia 28 (fun _ => nI 0)])) (by rw [show (70 : Nat) = 70 + 0 from rfl, kZs hZ 0 rfl]; rfl) ?_
  refine m_J_run hM 2 rfl ⟨trivial, trivial, trivial⟩ ?_
  refine m_newI (K := 28) hM rfl (by omega) (by simp [hZ]) (Nat.le_of_ble_eq_true rfl) (Nat.le_of_ble_eq_true rfl) ?_
  refine m_J_S (S2 := (73, [some (.ref 70)], [.ref 79, .ref 70], Z ++ [.inr (8, [.int (nI 0), .ref 71, .ref 72, .ref 73, .int (nI 0), .int (nI 0), .int (nI 0), .ref 74, .ref 75, .ref 76, .ref 77, .ref 78, .null, .null, .int (nI 0), .null, .int (nI 0), .null, .int (nI 0), .int (nI 0), .int (nI 0), .int (nI 0), .int (nI 0), .null, .null, .null, .null, .null, .null, .null, .null, .int (nI 0), .null]), k_ia 60 (fun _ => nI 0), k_ia 60 (fun _ => nI 0), k_za 60 (fun _ => nI 0), k_ia 28 (fun _ => nI 0), k_ia 28 (fun _ => nI 0), k_ia 28 (fun _ => nI 0), k_ia 28 (fun _ => nI 0), k_ia 28 (fun _ => nI 0), k_ia 28 (fun _ => nI 0)])) (by first | (simp [hZ]; done) | (simp [hZ]; rfl)) ?_
  refine m_J_putc hM rfl rfl (kZ hZ 0 rfl) (rfl) (by decide) ?_
  refine m_J_S (S2 := (76, [some (.ref 70)], [], Z ++ [.inr (8, [.int (nI 0), .ref 71, .ref 72, .ref 73, .int (nI 0), .int (nI 0), .int (nI 0), .ref 74, .ref 75, .ref 76, .ref 77, .ref 78, .ref 79, .null, .int (nI 0), .null, .int (nI 0), .null, .int (nI 0), .int (nI 0), .int (nI 0), .int (nI 0), .int (nI 0), .null, .null, .null, .null, .null, .null, .null, .null, .int (nI 0), .null]), k_ia 60 (fun _ => nI 0), k_ia 60 (fun _ => nI 0), k_za 60 (fun _ => nI 0), k_ia 28 (fun _ => nI 0), k_ia 28 (fun _ => nI 0), k_ia 28 (fun _ => nI 0), k_ia 28 (fun _ => nI 0), k_ia 28 (fun _ => nI 0), k_ia 28 (fun _ => nI 0)])) (by rw [show (70 : Nat) = 70 + 0 from rfl, kZs hZ 0 rfl]; rfl) ?_
  refine m_J_run hM 2 rfl ⟨trivial, trivial, trivial⟩ ?_
  refine m_newI (K := 28) hM rfl (by omega) (by simp [hZ]) (Nat.le_of_ble_eq_true rfl) (Nat.le_of_ble_eq_true rfl) ?_
  refine m_J_S (S2 := (81, [some (.ref 70)], [.ref 80, .ref 70], Z ++ [.inr (8, [.int (nI 0), .ref 71, .ref 72, .ref 73, .int (nI 0), .int (nI 0), .int (nI 0), .ref 74, .ref 75, .ref 76, .ref 77, .ref 78, .ref 79, .null, .int (nI 0), .null, .int (nI 0), .null, .int (nI 0), .int (nI 0), .int (nI 0), .int (nI 0), .int (nI 0), .null, .null, .null, .null, .null, .null, .null, .null, .int (nI 0), .null]), k_ia 60 (fun _ => nI 0), k_ia 60 (fun _ => nI 0), k_za 60 (fun _ => nI 0), k_ia 28 (fun _ => nI 0), k_ia 28 (fun _ => nI 0), k_ia 28 (fun _ => nI 0), k_ia 28 (fun _ => nI 0), k_ia 28 (fun _ => nI 0), k_ia 28 (fun _ => nI 0), k_ia 28 (fun _ => nI 0)])) (by first | (simp [hZ]; done) | (simp [hZ]; rfl)) ?_
  refine m_J_putc hM rfl rfl (kZ hZ 0 rfl) (rfl) (by decide) ?_
  refine m_J_S (S2 := (84, [some (.ref 70)], [], Z ++ [.inr (8, [.int (nI 0), .ref 71, .ref 72, .ref 73, .int (nI 0), .int (nI 0), .int (nI 0), .ref 74, .ref 75, .ref 76, .ref 77, .ref 78, .ref 79, .ref 80, .int (nI 0), .null, .int (nI 0), .null, .int (nI 0), .int (nI 0), .int (nI 0), .int (nI 0), .int (nI 0), .null, .null, .null, .null, .null, .null, .null, .null, .int (nI 0), .null]), k_ia 60 (fun _ => nI 0), k_ia 60 (fun _ => nI 0), k_za 60 (fun _ => nI 0), k_ia 28 (fun _ => nI 0), k_ia 28 (fun _ => nI 0), k_ia 28 (fun _ => nI 0), k_ia 28 (fun _ => nI 0), k_ia 28 (fun _ => nI 0), k_ia 28 (fun _ => nI 0), k_ia 28 (fun _ => nI 0)])) (by rw [show (70 : Nat) = 70 + 0 from rfl, kZs hZ 0 rfl]; rfl) ?_
  refine m_J_run hM 2 rfl ⟨trivial, trivial, trivial⟩ ?_
  refine m_newI (K := 360) hM rfl (by omega) (by simp [hZ]) (Nat.le_of_ble_eq_true rfl) (Nat.le_of_ble_eq_true rfl) ?_
  refine m_J_S (S2 := (90, [some (.ref 70)], [.ref 81, .ref 70], Z ++ [.inr (8, [.int (nI 0), .ref 71, .ref 72, .ref 73, .int (nI 0), .int (nI 0), .int (nI 0), .ref 74, .ref 75, .ref 76, .ref 77, .ref 78, .ref 79, .ref 80, .int (nI 0), .null, .int (nI 0), .null, .int (nI 0), .int (nI 0), .int (nI 0), .int (nI 0), .int (nI 0), .null, .null, .null, .null, .null, .null, .null, .null, .int (nI 0), .null]), k_ia 60 (fun _ => nI 0), k_ia 60 (fun _ => nI 0), k_za 60 (fun _ => nI 0), k_ia 28 (fun _ => nI 0), k_ia 28 (fun _ => nI 0), k_ia 28 (fun _ => nI 0), k_ia 28 (fun _ => nI 0), k_ia 28 (fun _ => nI 0), k_ia 28 (fun _ => nI 0), k_ia 28 (fun _ => nI 0), k_ia 360 (fun _ => nI 0)])) (by first | (simp [hZ]; done) | (simp [hZ]; rfl)) ?_
  refine m_J_putc hM rfl rfl (kZ hZ 0 rfl) (rfl) (by decide) ?_
  refine m_J_S (S2 := (93, [some (.ref 70)], [], Z ++ [.inr (8, [.int (nI 0), .ref 71, .ref 72, .ref 73, .int (nI 0), .int (nI 0), .int (nI 0), .ref 74, .ref 75, .ref 76, .ref 77, .ref 78, .ref 79, .ref 80, .int (nI 0), .ref 81, .int (nI 0), .null, .int (nI 0), .int (nI 0), .int (nI 0), .int (nI 0), .int (nI 0), .null, .null, .null, .null, .null, .null, .null, .null, .int (nI 0), .null]), k_ia 60 (fun _ => nI 0), k_ia 60 (fun _ => nI 0), k_za 60 (fun _ => nI 0), k_ia 28 (fun _ => nI 0), k_ia 28 (fun _ => nI 0), k_ia 28 (fun _ => nI 0), k_ia 28 (fun _ => nI 0), k_ia 28 (fun _ => nI 0), k_ia 28 (fun _ => nI 0), k_ia 28 (fun _ => nI 0), k_ia 360 (fun _ => nI 0)])) (by rw [show (70 : Nat) = 70 + 0 from rfl, kZs hZ 0 rfl]; rfl) ?_
  refine m_J_run hM 2 rfl ⟨trivial, trivial, trivial⟩ ?_
  refine m_newB (K := 400) hM rfl (by omega) (by simp [hZ]) (Nat.le_of_ble_eq_true rfl) (Nat.le_of_ble_eq_true rfl) ?_
  refine m_J_S (S2 := (99, [some (.ref 70)], [.ref 82, .ref 70], Z ++ [.inr (8, [.int (nI 0), .ref 71, .ref 72, .ref 73, .int (nI 0), .int (nI 0), .int (nI 0), .ref 74, .ref 75, .ref 76, .ref 77, .ref 78, .ref 79, .ref 80, .int (nI 0), .ref 81, .int (nI 0), .null, .int (nI 0), .int (nI 0), .int (nI 0), .int (nI 0), .int (nI 0), .null, .null, .null, .null, .null, .null, .null, .null, .int (nI 0), .null]), k_ia 60 (fun _ => nI 0), k_ia 60 (fun _ => nI 0), k_za 60 (fun _ => nI 0), k_ia 28 (fun _ => nI 0), k_ia 28 (fun _ => nI 0), k_ia 28 (fun _ => nI 0), k_ia 28 (fun _ => nI 0), k_ia 28 (fun _ => nI 0), k_ia 28 (fun _ => nI 0), k_ia 28 (fun _ => nI 0), k_ia 360 (fun _ => nI 0), k_ba 400 (fun _ => nI 0)])) (by first | (simp [hZ]; done) | (simp [hZ]; rfl)) ?_
  refine m_J_putc hM rfl rfl (kZ hZ 0 rfl) (rfl) (by decide) ?_
  refine m_J_S (S2 := (102, [some (.ref 70)], [], Z ++ [.inr (8, [.int (nI 0), .ref 71, .ref 72, .ref 73, .int (nI 0), .int (nI 0), .int (nI 0), .ref 74, .ref 75, .ref 76, .ref 77, .ref 78, .ref 79, .ref 80, .int (nI 0), .ref 81, .int (nI 0), .ref 82, .int (nI 0), .int (nI 0), .int (nI 0), .int (nI 0), .int (nI 0), .null, .null, .null, .null, .null, .null, .null, .null, .int (nI 0), .null]), k_ia 60 (fun _ => nI 0), k_ia 60 (fun _ => nI 0), k_za 60 (fun _ => nI 0), k_ia 28 (fun _ => nI 0), k_ia 28 (fun _ => nI 0), k_ia 28 (fun _ => nI 0), k_ia 28 (fun _ => nI 0), k_ia 28 (fun _ => nI 0), k_ia 28 (fun _ => nI 0), k_ia 28 (fun _ => nI 0), k_ia 360 (fun _ => nI 0), k_ba 400 (fun _ => nI 0)])) (by rw [show (70 : Nat) = 70 + 0 from rfl, kZs hZ 0 rfl]; rfl) ?_
  refine m_J_run hM 2 rfl ⟨trivial, trivial, trivial⟩ ?_
  refine m_J_putc hM rfl rfl (kZ hZ 0 rfl) (rfl) (by decide) ?_
  refine m_J_S (S2 := (107, [some (.ref 70)], [], Z ++ [.inr (8, [.int (nI 0), .ref 71, .ref 72, .ref 73, .int (nI 0), .int (nI 0), .int (nI 0), .ref 74, .ref 75, .ref 76, .ref 77, .ref 78, .ref 79, .ref 80, .int (nI 0), .ref 81, .int (nI 0), .ref 82, .int (nI 0), .int (nI 0), .int (nI 0), .int (nI 0), .int (-nI 1), .null, .null, .null, .null, .null, .null, .null, .null, .int (nI 0), .null]), k_ia 60 (fun _ => nI 0), k_ia 60 (fun _ => nI 0), k_za 60 (fun _ => nI 0), k_ia 28 (fun _ => nI 0), k_ia 28 (fun _ => nI 0), k_ia 28 (fun _ => nI 0), k_ia 28 (fun _ => nI 0), k_ia 28 (fun _ => nI 0), k_ia 28 (fun _ => nI 0), k_ia 28 (fun _ => nI 0), k_ia 360 (fun _ => nI 0), k_ba 400 (fun _ => nI 0)])) (by rw [show (70 : Nat) = 70 + 0 from rfl, kZs hZ 0 rfl]; rfl) ?_
  refine m_J_run hM 2 rfl ⟨trivial, trivial, trivial⟩ ?_
  refine m_newI (K := 5) hM rfl (by omega) (by simp [hZ]) (Nat.le_of_ble_eq_true rfl) (Nat.le_of_ble_eq_true rfl) ?_
  refine m_J_S (S2 := (111, [some (.ref 70)], [.ref 83, .ref 70], Z ++ [.inr (8, [.int (nI 0), .ref 71, .ref 72, .ref 73, .int (nI 0), .int (nI 0), .int (nI 0), .ref 74, .ref 75, .ref 76, .ref 77, .ref 78, .ref 79, .ref 80, .int (nI 0), .ref 81, .int (nI 0), .ref 82, .int (nI 0), .int (nI 0), .int (nI 0), .int (nI 0), .int (-nI 1), .null, .null, .null, .null, .null, .null, .null, .null, .int (nI 0), .null]), k_ia 60 (fun _ => nI 0), k_ia 60 (fun _ => nI 0), k_za 60 (fun _ => nI 0), k_ia 28 (fun _ => nI 0), k_ia 28 (fun _ => nI 0), k_ia 28 (fun _ => nI 0), k_ia 28 (fun _ => nI 0), k_ia 28 (fun _ => nI 0), k_ia 28 (fun _ => nI 0), k_ia 28 (fun _ => nI 0), k_ia 360 (fun _ => nI 0), k_ba 400 (fun _ => nI 0), k_ia 5 (fun _ => nI 0)])) (by first | (simp [hZ]; done) | (simp [hZ]; rfl)) ?_
  refine m_J_putc hM rfl rfl (kZ hZ 0 rfl) (rfl) (by decide) ?_
  refine m_J_S (S2 := (114, [some (.ref 70)], [], Z ++ [.inr (8, [.int (nI 0), .ref 71, .ref 72, .ref 73, .int (nI 0), .int (nI 0), .int (nI 0), .ref 74, .ref 75, .ref 76, .ref 77, .ref 78, .ref 79, .ref 80, .int (nI 0), .ref 81, .int (nI 0), .ref 82, .int (nI 0), .int (nI 0), .int (nI 0), .int (nI 0), .int (-nI 1), .ref 83, .null, .null, .null, .null, .null, .null, .null, .int (nI 0), .null]), k_ia 60 (fun _ => nI 0), k_ia 60 (fun _ => nI 0), k_za 60 (fun _ => nI 0), k_ia 28 (fun _ => nI 0), k_ia 28 (fun _ => nI 0), k_ia 28 (fun _ => nI 0), k_ia 28 (fun _ => nI 0), k_ia 28 (fun _ => nI 0), k_ia 28 (fun _ => nI 0), k_ia 28 (fun _ => nI 0), k_ia 360 (fun _ => nI 0), k_ba 400 (fun _ => nI 0), k_ia 5 (fun _ => nI 0)])) (by rw [show (70 : Nat) = 70 + 0 from rfl, kZs hZ 0 rfl]; rfl) ?_
  refine m_J_run hM 2 rfl ⟨trivial, trivial, trivial⟩ ?_
  refine m_newZ (K := 60) hM rfl (by omega) (by simp [hZ]) (Nat.le_of_ble_eq_true rfl) (Nat.le_of_ble_eq_true rfl) ?_
  refine m_J_S (S2 := (119, [some (.ref 70)], [.ref 84, .ref 70], Z ++ [.inr (8, [.int (nI 0), .ref 71, .ref 72, .ref 73, .int (nI 0), .int (nI 0), .int (nI 0), .ref 74, .ref 75, .ref 76, .ref 77, .ref 78, .ref 79, .ref 80, .int (nI 0), .ref 81, .int (nI 0), .ref 82, .int (nI 0), .int (nI 0), .int (nI 0), .int (nI 0), .int (-nI 1), .ref 83, .null, .null, .null, .null, .null, .null, .null, .int (nI 0), .null]), k_ia 60 (fun _ => nI 0), k_ia 60 (fun _ => nI 0), k_za 60 (fun _ => nI 0), k_ia 28 (fun _ => nI 0), k_ia 28 (fun _ => nI 0), k_ia 28 (fun _ => nI 0), k_ia 28 (fun _ => nI 0), k_ia 28 (fun _ => nI 0), k_ia 28 (fun _ => nI 0), k_ia 28 (fun _ => nI 0), k_ia 360 (fun _ => nI 0), k_ba 400 (fun _ => nI 0), k_ia 5 (fun _ => nI 0), k_za 60 (fun _ => nI 0)])) (by first | (simp [hZ]; done) | (simp [hZ]; rfl)) ?_
  refine m_J_putc hM rfl rfl (kZ hZ 0 rfl) (rfl) (by decide) ?_
  refine m_J_S (S2 := (122, [some (.ref 70)], [], Z ++ [.inr (8, [.int (nI 0), .ref 71, .ref 72, .ref 73, .int (nI 0), .int (nI 0), .int (nI 0), .ref 74, .ref 75, .ref 76, .ref 77, .ref 78, .ref 79, .ref 80, .int (nI 0), .ref 81, .int (nI 0), .ref 82, .int (nI 0), .int (nI 0), .int (nI 0), .int (nI 0), .int (-nI 1), .ref 83, .ref 84, .null, .null, .null, .null, .null, .null, .int (nI 0), .null]), k_ia 60 (fun _ => nI 0), k_ia 60 (fun _ => nI 0), k_za 60 (fun _ => nI 0), k_ia 28 (fun _ => nI 0), k_ia 28 (fun _ => nI 0), k_ia 28 (fun _ => nI 0), k_ia 28 (fun _ => nI 0), k_ia 28 (fun _ => nI 0), k_ia 28 (fun _ => nI 0), k_ia 28 (fun _ => nI 0), k_ia 360 (fun _ => nI 0), k_ba 400 (fun _ => nI 0), k_ia 5 (fun _ => nI 0), k_za 60 (fun _ => nI 0)])) (by rw [show (70 : Nat) = 70 + 0 from rfl, kZs hZ 0 rfl]; rfl) ?_
  refine m_J_run hM 2 rfl ⟨trivial, trivial, trivial⟩ ?_
  refine m_newI (K := 60) hM rfl (by omega) (by simp [hZ]) (Nat.le_of_ble_eq_true rfl) (Nat.le_of_ble_eq_true rfl) ?_
  refine m_J_S (S2 := (127, [some (.ref 70)], [.ref 85, .ref 70], Z ++ [.inr (8, [.int (nI 0), .ref 71, .ref 72, .ref 73, .int (nI 0), .int (nI 0), .int (nI 0), .ref 74, .ref 75, .ref 76, .ref 77, .ref 78, .ref 79, .ref 80, .int (nI 0), .ref 81, .int (nI 0), .ref 82, .int (nI 0), .int (nI 0), .int (nI 0), .int (nI 0), .int (-nI 1), .ref 83, .ref 84, .null, .null, .null, .null, .null, .null, .int (nI 0), .null]), k_ia 60 (fun _ => nI 0), k_ia 60 (fun _ => nI 0), k_za 60 (fun _ => nI 0), k_ia 28 (fun _ => nI 0), k_ia 28 (fun _ => nI 0), k_ia 28 (fun _ => nI 0), k_ia 28 (fun _ => nI 0), k_ia 28 (fun _ => nI 0), k_ia 28 (fun _ => nI 0), k_ia 28 (fun _ => nI 0), k_ia 360 (fun _ => nI 0), k_ba 400 (fun _ => nI 0), k_ia 5 (fun _ => nI 0), k_za 60 (fun _ => nI 0), k_ia 60 (fun _ => nI 0)])) (by first | (simp [hZ]; done) | (simp [hZ]; rfl)) ?_
  refine m_J_putc hM rfl rfl (kZ hZ 0 rfl) (rfl) (by decide) ?_
  refine m_J_S (S2 := (130, [some (.ref 70)], [], Z ++ [.inr (8, [.int (nI 0), .ref 71, .ref 72, .ref 73, .int (nI 0), .int (nI 0), .int (nI 0), .ref 74, .ref 75, .ref 76, .ref 77, .ref 78, .ref 79, .ref 80, .int (nI 0), .ref 81, .int (nI 0), .ref 82, .int (nI 0), .int (nI 0), .int (nI 0), .int (nI 0), .int (-nI 1), .ref 83, .ref 84, .ref 85, .null, .null, .null, .null, .null, .int (nI 0), .null]), k_ia 60 (fun _ => nI 0), k_ia 60 (fun _ => nI 0), k_za 60 (fun _ => nI 0), k_ia 28 (fun _ => nI 0), k_ia 28 (fun _ => nI 0), k_ia 28 (fun _ => nI 0), k_ia 28 (fun _ => nI 0), k_ia 28 (fun _ => nI 0), k_ia 28 (fun _ => nI 0), k_ia 28 (fun _ => nI 0), k_ia 360 (fun _ => nI 0), k_ba 400 (fun _ => nI 0), k_ia 5 (fun _ => nI 0), k_za 60 (fun _ => nI 0), k_ia 60 (fun _ => nI 0)])) (by rw [show (70 : Nat) = 70 + 0 from rfl, kZs hZ 0 rfl]; rfl) ?_
  refine m_J_run hM 2 rfl ⟨trivial, trivial, trivial⟩ ?_
  refine m_newI (K := 5) hM rfl (by omega) (by simp [hZ]) (Nat.le_of_ble_eq_true rfl) (Nat.le_of_ble_eq_true rfl) ?_
  refine m_J_S (S2 := (134, [some (.ref 70)], [.ref 86, .ref 70], Z ++ [.inr (8, [.int (nI 0), .ref 71, .ref 72, .ref 73, .int (nI 0), .int (nI 0), .int (nI 0), .ref 74, .ref 75, .ref 76, .ref 77, .ref 78, .ref 79, .ref 80, .int (nI 0), .ref 81, .int (nI 0), .ref 82, .int (nI 0), .int (nI 0), .int (nI 0), .int (nI 0), .int (-nI 1), .ref 83, .ref 84, .ref 85, .null, .null, .null, .null, .null, .int (nI 0), .null]), k_ia 60 (fun _ => nI 0), k_ia 60 (fun _ => nI 0), k_za 60 (fun _ => nI 0), k_ia 28 (fun _ => nI 0), k_ia 28 (fun _ => nI 0), k_ia 28 (fun _ => nI 0), k_ia 28 (fun _ => nI 0), k_ia 28 (fun _ => nI 0), k_ia 28 (fun _ => nI 0), k_ia 28 (fun _ => nI 0), k_ia 360 (fun _ => nI 0), k_ba 400 (fun _ => nI 0), k_ia 5 (fun _ => nI 0), k_za 60 (fun _ => nI 0), k_ia 60 (fun _ => nI 0), k_ia 5 (fun _ => nI 0)])) (by first | (simp [hZ]; done) | (simp [hZ]; rfl)) ?_
  refine m_J_putc hM rfl rfl (kZ hZ 0 rfl) (rfl) (by decide) ?_
  refine m_J_S (S2 := (137, [some (.ref 70)], [], Z ++ [.inr (8, [.int (nI 0), .ref 71, .ref 72, .ref 73, .int (nI 0), .int (nI 0), .int (nI 0), .ref 74, .ref 75, .ref 76, .ref 77, .ref 78, .ref 79, .ref 80, .int (nI 0), .ref 81, .int (nI 0), .ref 82, .int (nI 0), .int (nI 0), .int (nI 0), .int (nI 0), .int (-nI 1), .ref 83, .ref 84, .ref 85, .ref 86, .null, .null, .null, .null, .int (nI 0), .null]), k_ia 60 (fun _ => nI 0), k_ia 60 (fun _ => nI 0), k_za 60 (fun _ => nI 0), k_ia 28 (fun _ => nI 0), k_ia 28 (fun _ => nI 0), k_ia 28 (fun _ => nI 0), k_ia 28 (fun _ => nI 0), k_ia 28 (fun _ => nI 0), k_ia 28 (fun _ => nI 0), k_ia 28 (fun _ => nI 0), k_ia 360 (fun _ => nI 0), k_ba 400 (fun _ => nI 0), k_ia 5 (fun _ => nI 0), k_za 60 (fun _ => nI 0), k_ia 60 (fun _ => nI 0), k_ia 5 (fun _ => nI 0)])) (by rw [show (70 : Nat) = 70 + 0 from rfl, kZs hZ 0 rfl]; rfl) ?_
  refine m_J_run hM 2 rfl ⟨trivial, trivial, trivial⟩ ?_
  refine m_newI (K := 25) hM rfl (by omega) (by simp [hZ]) (Nat.le_of_ble_eq_true rfl) (Nat.le_of_ble_eq_true rfl) ?_
  refine m_J_S (S2 := (142, [some (.ref 70)], [.ref 87, .ref 70], Z ++ [.inr (8, [.int (nI 0), .ref 71, .ref 72, .ref 73, .int (nI 0), .int (nI 0), .int (nI 0), .ref 74, .ref 75, .ref 76, .ref 77, .ref 78, .ref 79, .ref 80, .int (nI 0), .ref 81, .int (nI 0), .ref 82, .int (nI 0), .int (nI 0), .int (nI 0), .int (nI 0), .int (-nI 1), .ref 83, .ref 84, .ref 85, .ref 86, .null, .null, .null, .null, .int (nI 0), .null]), k_ia 60 (fun _ => nI 0), k_ia 60 (fun _ => nI 0), k_za 60 (fun _ => nI 0), k_ia 28 (fun _ => nI 0), k_ia 28 (fun _ => nI 0), k_ia 28 (fun _ => nI 0), k_ia 28 (fun _ => nI 0), k_ia 28 (fun _ => nI 0), k_ia 28 (fun _ => nI 0), k_ia 28 (fun _ => nI 0), k_ia 360 (fun _ => nI 0), k_ba 400 (fun _ => nI 0), k_ia 5 (fun _ => nI 0), k_za 60 (fun _ => nI 0), k_ia 60 (fun _ => nI 0), k_ia 5 (fun _ => nI 0), k_ia 25 (fun _ => nI 0)])) (by first | (simp [hZ]; done) | (simp [hZ]; rfl)) ?_
  refine m_J_putc hM rfl rfl (kZ hZ 0 rfl) (rfl) (by decide) ?_
  refine m_J_S (S2 := (145, [some (.ref 70)], [], Z ++ [.inr (8, [.int (nI 0), .ref 71, .ref 72, .ref 73, .int (nI 0), .int (nI 0), .int (nI 0), .ref 74, .ref 75, .ref 76, .ref 77, .ref 78, .ref 79, .ref 80, .int (nI 0), .ref 81, .int (nI 0), .ref 82, .int (nI 0), .int (nI 0), .int (nI 0), .int (nI 0), .int (-nI 1), .ref 83, .ref 84, .ref 85, .ref 86, .ref 87, .null, .null, .null, .int (nI 0), .null]), k_ia 60 (fun _ => nI 0), k_ia 60 (fun _ => nI 0), k_za 60 (fun _ => nI 0), k_ia 28 (fun _ => nI 0), k_ia 28 (fun _ => nI 0), k_ia 28 (fun _ => nI 0), k_ia 28 (fun _ => nI 0), k_ia 28 (fun _ => nI 0), k_ia 28 (fun _ => nI 0), k_ia 28 (fun _ => nI 0), k_ia 360 (fun _ => nI 0), k_ba 400 (fun _ => nI 0), k_ia 5 (fun _ => nI 0), k_za 60 (fun _ => nI 0), k_ia 60 (fun _ => nI 0), k_ia 5 (fun _ => nI 0), k_ia 25 (fun _ => nI 0)])) (by rw [show (70 : Nat) = 70 + 0 from rfl, kZs hZ 0 rfl]; rfl) ?_
  refine m_J_run hM 2 rfl ⟨trivial, trivial, trivial⟩ ?_
  refine m_newI (K := 625) hM rfl (by omega) (by simp [hZ]) (Nat.le_of_ble_eq_true rfl) (Nat.le_of_ble_eq_true rfl) ?_
  refine m_J_S (S2 := (151, [some (.ref 70)], [.ref 88, .ref 70], Z ++ [.inr (8, [.int (nI 0), .ref 71, .ref 72, .ref 73, .int (nI 0), .int (nI 0), .int (nI 0), .ref 74, .ref 75, .ref 76, .ref 77, .ref 78, .ref 79, .ref 80, .int (nI 0), .ref 81, .int (nI 0), .ref 82, .int (nI 0), .int (nI 0), .int (nI 0), .int (nI 0), .int (-nI 1), .ref 83, .ref 84, .ref 85, .ref 86, .ref 87, .null, .null, .null, .int (nI 0), .null]), k_ia 60 (fun _ => nI 0), k_ia 60 (fun _ => nI 0), k_za 60 (fun _ => nI 0), k_ia 28 (fun _ => nI 0), k_ia 28 (fun _ => nI 0), k_ia 28 (fun _ => nI 0), k_ia 28 (fun _ => nI 0), k_ia 28 (fun _ => nI 0), k_ia 28 (fun _ => nI 0), k_ia 28 (fun _ => nI 0), k_ia 360 (fun _ => nI 0), k_ba 400 (fun _ => nI 0), k_ia 5 (fun _ => nI 0), k_za 60 (fun _ => nI 0), k_ia 60 (fun _ => nI 0), k_ia 5 (fun _ => nI 0), k_ia 25 (fun _ => nI 0), k_ia 625 (fun _ => nI 0)])) (by first | (simp [hZ]; done) | (simp [hZ]; rfl)) ?_
  refine m_J_putc hM rfl rfl (kZ hZ 0 rfl) (rfl) (by decide) ?_
  refine m_J_S (S2 := (154, [some (.ref 70)], [], Z ++ [.inr (8, [.int (nI 0), .ref 71, .ref 72, .ref 73, .int (nI 0), .int (nI 0), .int (nI 0), .ref 74, .ref 75, .ref 76, .ref 77, .ref 78, .ref 79, .ref 80, .int (nI 0), .ref 81, .int (nI 0), .ref 82, .int (nI 0), .int (nI 0), .int (nI 0), .int (nI 0), .int (-nI 1), .ref 83, .ref 84, .ref 85, .ref 86, .ref 87, .ref 88, .null, .null, .int (nI 0), .null]), k_ia 60 (fun _ => nI 0), k_ia 60 (fun _ => nI 0), k_za 60 (fun _ => nI 0), k_ia 28 (fun _ => nI 0), k_ia 28 (fun _ => nI 0), k_ia 28 (fun _ => nI 0), k_ia 28 (fun _ => nI 0), k_ia 28 (fun _ => nI 0), k_ia 28 (fun _ => nI 0), k_ia 28 (fun _ => nI 0), k_ia 360 (fun _ => nI 0), k_ba 400 (fun _ => nI 0), k_ia 5 (fun _ => nI 0), k_za 60 (fun _ => nI 0), k_ia 60 (fun _ => nI 0), k_ia 5 (fun _ => nI 0), k_ia 25 (fun _ => nI 0), k_ia 625 (fun _ => nI 0)])) (by rw [show (70 : Nat) = 70 + 0 from rfl, kZs hZ 0 rfl]; rfl) ?_
  refine m_J_run hM 2 rfl ⟨trivial, trivial, trivial⟩ ?_
  refine m_newI (K := 5) hM rfl (by omega) (by simp [hZ]) (Nat.le_of_ble_eq_true rfl) (Nat.le_of_ble_eq_true rfl) ?_
  refine m_J_S (S2 := (158, [some (.ref 70)], [.ref 89, .ref 70], Z ++ [.inr (8, [.int (nI 0), .ref 71, .ref 72, .ref 73, .int (nI 0), .int (nI 0), .int (nI 0), .ref 74, .ref 75, .ref 76, .ref 77, .ref 78, .ref 79, .ref 80, .int (nI 0), .ref 81, .int (nI 0), .ref 82, .int (nI 0), .int (nI 0), .int (nI 0), .int (nI 0), .int (-nI 1), .ref 83, .ref 84, .ref 85, .ref 86, .ref 87, .ref 88, .null, .null, .int (nI 0), .null]), k_ia 60 (fun _ => nI 0), k_ia 60 (fun _ => nI 0), k_za 60 (fun _ => nI 0), k_ia 28 (fun _ => nI 0), k_ia 28 (fun _ => nI 0), k_ia 28 (fun _ => nI 0), k_ia 28 (fun _ => nI 0), k_ia 28 (fun _ => nI 0), k_ia 28 (fun _ => nI 0), k_ia 28 (fun _ => nI 0), k_ia 360 (fun _ => nI 0), k_ba 400 (fun _ => nI 0), k_ia 5 (fun _ => nI 0), k_za 60 (fun _ => nI 0), k_ia 60 (fun _ => nI 0), k_ia 5 (fun _ => nI 0), k_ia 25 (fun _ => nI 0), k_ia 625 (fun _ => nI 0), k_ia 5 (fun _ => nI 0)])) (by first | (simp [hZ]; done) | (simp [hZ]; rfl)) ?_
  refine m_J_putc hM rfl rfl (kZ hZ 0 rfl) (rfl) (by decide) ?_
  refine m_J_S (S2 := (161, [some (.ref 70)], [], Z ++ [.inr (8, [.int (nI 0), .ref 71, .ref 72, .ref 73, .int (nI 0), .int (nI 0), .int (nI 0), .ref 74, .ref 75, .ref 76, .ref 77, .ref 78, .ref 79, .ref 80, .int (nI 0), .ref 81, .int (nI 0), .ref 82, .int (nI 0), .int (nI 0), .int (nI 0), .int (nI 0), .int (-nI 1), .ref 83, .ref 84, .ref 85, .ref 86, .ref 87, .ref 88, .ref 89, .null, .int (nI 0), .null]), k_ia 60 (fun _ => nI 0), k_ia 60 (fun _ => nI 0), k_za 60 (fun _ => nI 0), k_ia 28 (fun _ => nI 0), k_ia 28 (fun _ => nI 0), k_ia 28 (fun _ => nI 0), k_ia 28 (fun _ => nI 0), k_ia 28 (fun _ => nI 0), k_ia 28 (fun _ => nI 0), k_ia 28 (fun _ => nI 0), k_ia 360 (fun _ => nI 0), k_ba 400 (fun _ => nI 0), k_ia 5 (fun _ => nI 0), k_za 60 (fun _ => nI 0), k_ia 60 (fun _ => nI 0), k_ia 5 (fun _ => nI 0), k_ia 25 (fun _ => nI 0), k_ia 625 (fun _ => nI 0), k_ia 5 (fun _ => nI 0)])) (by rw [show (70 : Nat) = 70 + 0 from rfl, kZs hZ 0 rfl]; rfl) ?_
  refine m_J_run hM 2 rfl ⟨trivial, trivial, trivial⟩ ?_
  refine m_newI (K := 5) hM rfl (by omega) (by simp [hZ]) (Nat.le_of_ble_eq_true rfl) (Nat.le_of_ble_eq_true rfl) ?_
  refine m_J_S (S2 := (165, [some (.ref 70)], [.ref 90, .ref 70], Z ++ [.inr (8, [.int (nI 0), .ref 71, .ref 72, .ref 73, .int (nI 0), .int (nI 0), .int (nI 0), .ref 74, .ref 75, .ref 76, .ref 77, .ref 78, .ref 79, .ref 80, .int (nI 0), .ref 81, .int (nI 0), .ref 82, .int (nI 0), .int (nI 0), .int (nI 0), .int (nI 0), .int (-nI 1), .ref 83, .ref 84, .ref 85, .ref 86, .ref 87, .ref 88, .ref 89, .null, .int (nI 0), .null]), k_ia 60 (fun _ => nI 0), k_ia 60 (fun _ => nI 0), k_za 60 (fun _ => nI 0), k_ia 28 (fun _ => nI 0), k_ia 28 (fun _ => nI 0), k_ia 28 (fun _ => nI 0), k_ia 28 (fun _ => nI 0), k_ia 28 (fun _ => nI 0), k_ia 28 (fun _ => nI 0), k_ia 28 (fun _ => nI 0), k_ia 360 (fun _ => nI 0), k_ba 400 (fun _ => nI 0), k_ia 5 (fun _ => nI 0), k_za 60 (fun _ => nI 0), k_ia 60 (fun _ => nI 0), k_ia 5 (fun _ => nI 0), k_ia 25 (fun _ => nI 0), k_ia 625 (fun _ => nI 0), k_ia 5 (fun _ => nI 0), k_ia 5 (fun _ => nI 0)])) (by first | (simp [hZ]; done) | (simp [hZ]; rfl)) ?_
  refine m_J_putc hM rfl rfl (kZ hZ 0 rfl) (rfl) (by decide) ?_
  refine m_J_S (S2 := (168, [some (.ref 70)], [], Z ++ [.inr (8, [.int (nI 0), .ref 71, .ref 72, .ref 73, .int (nI 0), .int (nI 0), .int (nI 0), .ref 74, .ref 75, .ref 76, .ref 77, .ref 78, .ref 79, .ref 80, .int (nI 0), .ref 81, .int (nI 0), .ref 82, .int (nI 0), .int (nI 0), .int (nI 0), .int (nI 0), .int (-nI 1), .ref 83, .ref 84, .ref 85, .ref 86, .ref 87, .ref 88, .ref 89, .ref 90, .int (nI 0), .null]), k_ia 60 (fun _ => nI 0), k_ia 60 (fun _ => nI 0), k_za 60 (fun _ => nI 0), k_ia 28 (fun _ => nI 0), k_ia 28 (fun _ => nI 0), k_ia 28 (fun _ => nI 0), k_ia 28 (fun _ => nI 0), k_ia 28 (fun _ => nI 0), k_ia 28 (fun _ => nI 0), k_ia 28 (fun _ => nI 0), k_ia 360 (fun _ => nI 0), k_ba 400 (fun _ => nI 0), k_ia 5 (fun _ => nI 0), k_za 60 (fun _ => nI 0), k_ia 60 (fun _ => nI 0), k_ia 5 (fun _ => nI 0), k_ia 25 (fun _ => nI 0), k_ia 625 (fun _ => nI 0), k_ia 5 (fun _ => nI 0), k_ia 5 (fun _ => nI 0)])) (by rw [show (70 : Nat) = 70 + 0 from rfl, kZs hZ 0 rfl]; rfl) ?_
  refine m_J_run hM 2 rfl ⟨trivial, trivial, trivial⟩ ?_
  refine m_newI (K := 60) hM rfl (by omega) (by simp [hZ]) (Nat.le_of_ble_eq_true rfl) (Nat.le_of_ble_eq_true rfl) ?_
  refine m_J_S (S2 := (173, [some (.ref 70)], [.ref 91, .ref 70], Z ++ [.inr (8, [.int (nI 0), .ref 71, .ref 72, .ref 73, .int (nI 0), .int (nI 0), .int (nI 0), .ref 74, .ref 75, .ref 76, .ref 77, .ref 78, .ref 79, .ref 80, .int (nI 0), .ref 81, .int (nI 0), .ref 82, .int (nI 0), .int (nI 0), .int (nI 0), .int (nI 0), .int (-nI 1), .ref 83, .ref 84, .ref 85, .ref 86, .ref 87, .ref 88, .ref 89, .ref 90, .int (nI 0), .null]), k_ia 60 (fun _ => nI 0), k_ia 60 (fun _ => nI 0), k_za 60 (fun _ => nI 0), k_ia 28 (fun _ => nI 0), k_ia 28 (fun _ => nI 0), k_ia 28 (fun _ => nI 0), k_ia 28 (fun _ => nI 0), k_ia 28 (fun _ => nI 0), k_ia 28 (fun _ => nI 0), k_ia 28 (fun _ => nI 0), k_ia 360 (fun _ => nI 0), k_ba 400 (fun _ => nI 0), k_ia 5 (fun _ => nI 0), k_za 60 (fun _ => nI 0), k_ia 60 (fun _ => nI 0), k_ia 5 (fun _ => nI 0), k_ia 25 (fun _ => nI 0), k_ia 625 (fun _ => nI 0), k_ia 5 (fun _ => nI 0), k_ia 5 (fun _ => nI 0), k_ia 60 (fun _ => nI 0)])) (by first | (simp [hZ]; done) | (simp [hZ]; rfl)) ?_
  refine m_J_putc hM rfl rfl (kZ hZ 0 rfl) (rfl) (by decide) ?_
  refine m_J_S (S2 := (176, [some (.ref 70)], [], Z ++ [.inr (8, [.int (nI 0), .ref 71, .ref 72, .ref 73, .int (nI 0), .int (nI 0), .int (nI 0), .ref 74, .ref 75, .ref 76, .ref 77, .ref 78, .ref 79, .ref 80, .int (nI 0), .ref 81, .int (nI 0), .ref 82, .int (nI 0), .int (nI 0), .int (nI 0), .int (nI 0), .int (-nI 1), .ref 83, .ref 84, .ref 85, .ref 86, .ref 87, .ref 88, .ref 89, .ref 90, .int (nI 0), .ref 91]), k_ia 60 (fun _ => nI 0), k_ia 60 (fun _ => nI 0), k_za 60 (fun _ => nI 0), k_ia 28 (fun _ => nI 0), k_ia 28 (fun _ => nI 0), k_ia 28 (fun _ => nI 0), k_ia 28 (fun _ => nI 0), k_ia 28 (fun _ => nI 0), k_ia 28 (fun _ => nI 0), k_ia 28 (fun _ => nI 0), k_ia 360 (fun _ => nI 0), k_ba 400 (fun _ => nI 0), k_ia 5 (fun _ => nI 0), k_za 60 (fun _ => nI 0), k_ia 60 (fun _ => nI 0), k_ia 5 (fun _ => nI 0), k_ia 25 (fun _ => nI 0), k_ia 625 (fun _ => nI 0), k_ia 5 (fun _ => nI 0), k_ia 5 (fun _ => nI 0), k_ia 60 (fun _ => nI 0)])) (by rw [show (70 : Nat) = 70 + 0 from rfl, kZs hZ 0 rfl]; rfl) ?_
  exact m_vret hM rfl rfl (Nat.le_of_ble_eq_true rfl) (Nat.le_of_ble_eq_true rfl) rfl
end
def k_im (v lo hi : Int32) : Bool := !(decide (v < lo)) && !(decide (hi < v))
def k_nq (x : Int32) : Bool := !(k_im x (nI 0) (nI 59))
def k_apN (s t : Nat) : Nat := max (s % 10 - t % 10 + (t % 10 - s % 10)) (s / 10 - t / 10 + (t / 10 - s / 10))
def k_bd (s w : Nat) : Option Nat := match w with
  | 0 => if 10 ≤ s then some (s - 10) else none
  | 1 => if 0 < s % 10 then some (s - 1) else none
  | 2 => if s % 10 < 9 then some (s + 1) else none
  | _ => if s < 50 then some (s + 10) else none
def k_on (x : Option Nat) : Int32 := x.elim (-nI 1) nI
theorem k_abN : ∀ {a : Nat}, a < 10 → ∀ {b : Nat}, b < 10 → (if 0 ≤ nI a - nI b then nI a - nI b else 0 - (nI a - nI b)) = nI (a - b + (b - a)) := by
  have h : ∀ a, a < 10 → ∀ b, b < 10 → (if 0 ≤ nI a - nI b then nI a - nI b else 0 - (nI a - nI b)) = nI (a - b + (b - a)) := by decide +kernel
  exact fun {a} ha {b} hb => h a ha b hb
section
variable {l : Launch} {E : mE} {N : Nat} {xs : Nat → Int32} {d : Nat} {tg : Bool} {Z : mH} {h : mH}
variable {th : Int32} {u : Nat → Int32} {so : Nat → Int32} {fz : Nat → Bool} {fs : Nat} {gt : Nat} {yr : Nat} {aK : Nat → Int32} {aO : Nat → Int32} {aT : Nat → Int32} {aH : Nat → Int32} {aW : Nat → Int32} {aS : Nat → Int32} {aL : Nat → Int32} {ls : Nat} {pl : Nat → Int32} {ps : Nat} {tp : Nat → Int32} {td : Nat} {pt : Nat} {en : Nat} {bg : Nat} {fa : Int32} {fv : Nat → Int32} {mt : Nat → Bool} {nx : Nat → Int32} {pL : Nat → Nat} {sg : Nat → Int32} {bo : Nat → Int32} {wa : Nat → Int32} {gv : Nat → Int32} {bw : Int32} {of : Nat → Int32} {o : mH}
theorem y_thrown (hZ : Z.length = 70)  : m_Dt l (m_EX E N xs) E mM_X9_thrown d 0 0 [.ref 70] (Z ++ k_M th u so fz fs gt yr aK aO aT aH aW aS aL ls pl ps tp td pt en bg fa fv mt nx pL sg bo wa gv bw of o) tg (some (.int th)) (Z ++ k_M th u so fz fs gt yr aK aO aT aH aW aS aL ls pl ps tp td pt en bg fa fv mt nx pL sg bo wa gv bw of o) tg := by
  have hM := mM_X9_thrown_ok
  refine m_Sp_of (by decide) (Nat.le_of_ble_eq_true rfl) ?_
  refine m_J_run hM 1 rfl ⟨trivial, trivial⟩ ?_
  refine m_J_getf hM rfl rfl (kZ hZ 0 rfl) (rfl) ?_
  exact m_iret hM rfl rfl rfl (Nat.le_of_ble_eq_true rfl) (Nat.le_of_ble_eq_true rfl) (rfl) (rfl)
theorem y_tif (hZ : Z.length = 70) {b : Bool} {x : Int32} : m_Dt l (m_EX E N xs) E mM_X9_throwsIf d 0 0 [.ref 70, .int (k_z b), .int x] (Z ++ k_M th u so fz fs gt yr aK aO aT aH aW aS aL ls pl ps tp td pt en bg fa fv mt nx pL sg bo wa gv bw of o) tg (some (.int (k_z b))) (Z ++ k_M (if b then x else th) u so fz fs gt yr aK aO aT aH aW aS aL ls pl ps tp td pt en bg fa fv mt nx pL sg bo wa gv bw of o) tg := by
  have hM := mM_X9_throwsIf_ok
  refine m_Sp_of (by decide) (Nat.le_of_ble_eq_true rfl) ?_
  cases b with
  | false =>
    refine m_J_run hM 2 rfl ⟨trivial, trivial, trivial⟩ ?_
    refine m_J_if (fun _ => ?_) (fun hc => absurd (rfl) hc)
    refine m_J_run hM 1 rfl ⟨trivial, trivial⟩ ?_
    exact m_iret hM rfl rfl (by decide) (Nat.le_of_ble_eq_true rfl) (Nat.le_of_ble_eq_true rfl) (rfl) (rfl)
  | true =>
    refine m_J_run hM 2 rfl ⟨trivial, trivial, trivial⟩ ?_
    refine m_J_if (fun hc => absurd hc (by decide)) (fun _ => ?_)
    refine m_J_run hM 2 rfl ⟨trivial, trivial, trivial⟩ ?_
    refine m_J_putf hM rfl rfl (kZ hZ 0 rfl) (rfl) ?_
    refine m_J_eqH (H' := (Z ++ k_M (x) u so fz fs gt yr aK aO aT aH aW aS aL ls pl ps tp td pt en bg fa fv mt nx pL sg bo wa gv bw of o)) (kZs hZ 0 rfl) ?_
    refine m_J_run hM 1 rfl ⟨trivial, trivial⟩ ?_
    exact m_iret hM rfl rfl (by decide) (Nat.le_of_ble_eq_true rfl) (Nat.le_of_ble_eq_true rfl) (rfl) (rfl)
theorem y_in {v lo hi : Int32} : m_Dt l (m_EX E N xs) E mM_X9_in d 0 0 [.int v, .int lo, .int hi] h tg (some (.int (k_z (k_im v lo hi)))) h tg := by
  have hM := mM_X9_in_ok
  refine m_Sp_of (by decide) (Nat.le_of_ble_eq_true rfl) ?_
  refine m_J_run hM 3 rfl ⟨trivial, trivial, trivial, trivial⟩ ?_
  refine m_J_if (fun hc => ?_) (fun hc => ?_)
  · refine m_J_run hM 1 rfl ⟨trivial, trivial⟩ ?_
    exact m_iret hM rfl rfl (by decide) (Nat.le_of_ble_eq_true rfl) (Nat.le_of_ble_eq_true rfl) (by simp [k_im, hc, k_z]) (rfl)
  have hc1 := hc
  refine m_J_run hM 3 rfl ⟨trivial, trivial, trivial, trivial⟩ ?_
  refine m_J_if (fun hc => ?_) (fun hc => ?_)
  · refine m_J_run hM 1 rfl ⟨trivial, trivial⟩ ?_
    exact m_iret hM rfl rfl (by decide) (Nat.le_of_ble_eq_true rfl) (Nat.le_of_ble_eq_true rfl) (by simp [k_im, hc1, hc, k_z]) (rfl)
  · refine m_J_run hM 2 rfl ⟨trivial, trivial, trivial⟩ ?_
    exact m_iret hM rfl rfl (by decide) (Nat.le_of_ble_eq_true rfl) (Nat.le_of_ble_eq_true rfl) (by simp [k_im, hc1, hc, k_z]) (rfl)
theorem y_nq {x : Int32} : m_Dt l (m_EX E N xs) E mM_X9_noSquare (d + 1) 0 0 [.int x] h tg (some (.int (k_z (k_nq x)))) h tg := by
  have hM := mM_X9_noSquare_ok
  refine m_Sp_of (by decide) (Nat.le_of_ble_eq_true rfl) ?_
  refine m_J_run hM 3 rfl ⟨trivial, trivial, trivial, trivial⟩ ?_
  refine m_callS (as := [.int x, .int (nI 0), .int (nI 59)]) (rest := []) (m_EX_warm E N xs) hM rfl kw_X9_82 rfl (y_in) rfl (Nat.le_of_ble_eq_true rfl) (Nat.le_of_ble_eq_true rfl) (Nat.le_of_ble_eq_true rfl) (fun ht => ⟨ht, Nat.le_refl _⟩) ?_
  cases hb : k_im x (nI 0) (nI 59) with
  | false =>
    refine m_J_run hM 1 rfl ⟨trivial, trivial⟩ ?_
    refine m_J_if (fun hc => absurd hc (fun q => q (by decide))) (fun _ => ?_)
    refine m_J_run hM 2 rfl ⟨trivial, trivial, trivial⟩ ?_
    exact m_iret hM rfl rfl (by decide) (Nat.le_of_ble_eq_true rfl) (Nat.le_of_ble_eq_true rfl) (by simp [k_nq, hb, k_z]) (rfl)
  | true =>
    refine m_J_run hM 1 rfl ⟨trivial, trivial⟩ ?_
    refine m_J_if (fun _ => ?_) (fun hc => absurd (by decide) hc)
    refine m_J_run hM 1 rfl ⟨trivial, trivial⟩ ?_
    exact m_iret hM rfl rfl (by decide) (Nat.le_of_ble_eq_true rfl) (Nat.le_of_ble_eq_true rfl) (by simp [k_nq, hb, k_z]) (rfl)
theorem k_imN {v lo hi : Nat} (hv : v < 1000) (hl : lo < 1000) (hh : hi < 1000) : k_im (nI v) (nI lo) (nI hi) = (decide (lo ≤ v) && decide (v ≤ hi)) := by
  unfold k_im
  by_cases h1 : lo ≤ v <;> by_cases h2 : v ≤ hi <;> simp [nI_ltI (show v < 2 ^ 31 by omega) (show lo < 2 ^ 31 by omega), nI_ltI (show hi < 2 ^ 31 by omega) (show v < 2 ^ 31 by omega), h1, h2] <;> omega
set_option maxHeartbeats 2000000 in
theorem y_ii {s a b : Nat} (hs : s < 60) (ha : a < 60) (hb : b < 60) : m_Dt l (m_EX E N xs) E mM_X9_isIn (d + 1) 0 0 [.int (nI s), .int (nI a), .int (nI b)] h tg (some (.int (k_z (k_in a b s)))) h tg := by
  have hM := mM_X9_isIn_ok
  refine m_Sp_of (by decide) (Nat.le_of_ble_eq_true rfl) ?_
  refine m_J_run hM 2 rfl ⟨trivial, trivial, trivial⟩ ?_
  refine m_J_run hM 1 rfl ⟨(by decide), trivial⟩ ?_
  rw [k_rem10 (a := s) (by omega)]
  refine m_J_run hM 3 rfl ⟨trivial, trivial, trivial, trivial⟩ ?_
  refine m_J_run hM 1 rfl ⟨(by decide), trivial⟩ ?_
  rw [k_div10 (a := s) (by omega)]
  refine m_J_run hM 4 rfl ⟨trivial, trivial, trivial, trivial, trivial⟩ ?_
  refine m_J_run hM 1 rfl ⟨(by decide), trivial⟩ ?_
  rw [k_rem10 (a := a) (by omega)]
  refine m_J_run hM 2 rfl ⟨trivial, trivial, trivial⟩ ?_
  refine m_J_run hM 1 rfl ⟨(by decide), trivial⟩ ?_
  rw [k_rem10 (a := b) (by omega)]
  refine m_min hM rfl kw_X9_86 (Nat.le_of_ble_eq_true rfl) (Nat.le_of_ble_eq_true rfl) (Nat.le_of_ble_eq_true rfl) ?_
  rw [k_minN (a := a % 10) (b := b % 10) (by omega) (by omega)]
  refine m_J_run hM 2 rfl ⟨trivial, trivial, trivial⟩ ?_
  refine m_J_run hM 1 rfl ⟨(by decide), trivial⟩ ?_
  rw [k_rem10 (a := a) (by omega)]
  refine m_J_run hM 2 rfl ⟨trivial, trivial, trivial⟩ ?_
  refine m_J_run hM 1 rfl ⟨(by decide), trivial⟩ ?_
  rw [k_rem10 (a := b) (by omega)]
  refine m_max hM rfl kw_X9_92 (Nat.le_of_ble_eq_true rfl) (Nat.le_of_ble_eq_true rfl) (Nat.le_of_ble_eq_true rfl) ?_
  rw [k_maxN (a := a % 10) (b := b % 10) (by omega) (by omega)]
  refine m_callS (as := [.int (nI (s % 10)), .int (nI (min (a % 10) (b % 10))), .int (nI (max (a % 10) (b % 10)))]) (rest := []) (m_EX_warm E N xs) hM rfl kw_X9_82 rfl (y_in) rfl (Nat.le_of_ble_eq_true rfl) (Nat.le_of_ble_eq_true rfl) (Nat.le_of_ble_eq_true rfl) (fun ht => ⟨ht, Nat.le_refl _⟩) ?_
  rw [k_imN (by omega) (by omega) (by omega)]
  cases hx : (decide (min (a % 10) (b % 10) ≤ s % 10) && decide (s % 10 ≤ max (a % 10) (b % 10))) with
  | false =>
    refine m_J_run hM 1 rfl ⟨trivial, trivial⟩ ?_
    refine m_J_if (fun _ => ?_) (fun hc => absurd (rfl) hc)
    refine m_J_run hM 1 rfl ⟨trivial, trivial⟩ ?_
    exact m_iret hM rfl rfl (by decide) (Nat.le_of_ble_eq_true rfl) (Nat.le_of_ble_eq_true rfl) (by simp [k_in, hx, k_z]) (rfl)
  | true =>
    refine m_J_run hM 1 rfl ⟨trivial, trivial⟩ ?_
    refine m_J_if (fun hc => absurd hc (by decide)) (fun _ => ?_)
    refine m_J_run hM 3 rfl ⟨trivial, trivial, trivial, trivial⟩ ?_
    refine m_J_run hM 1 rfl ⟨(by decide), trivial⟩ ?_
    rw [k_div10 (a := a) (by omega)]
    refine m_J_run hM 2 rfl ⟨trivial, trivial, trivial⟩ ?_
    refine m_J_run hM 1 rfl ⟨(by decide), trivial⟩ ?_
    rw [k_div10 (a := b) (by omega)]
    refine m_min hM rfl kw_X9_86 (Nat.le_of_ble_eq_true rfl) (Nat.le_of_ble_eq_true rfl) (Nat.le_of_ble_eq_true rfl) ?_
    rw [k_minN (a := a / 10) (b := b / 10) (by omega) (by omega)]
    refine m_J_run hM 2 rfl ⟨trivial, trivial, trivial⟩ ?_
    refine m_J_run hM 1 rfl ⟨(by decide), trivial⟩ ?_
    rw [k_div10 (a := a) (by omega)]
    refine m_J_run hM 2 rfl ⟨trivial, trivial, trivial⟩ ?_
    refine m_J_run hM 1 rfl ⟨(by decide), trivial⟩ ?_
    rw [k_div10 (a := b) (by omega)]
    refine m_max hM rfl kw_X9_92 (Nat.le_of_ble_eq_true rfl) (Nat.le_of_ble_eq_true rfl) (Nat.le_of_ble_eq_true rfl) ?_
    rw [k_maxN (a := a / 10) (b := b / 10) (by omega) (by omega)]
    refine m_callS (as := [.int (nI (s / 10)), .int (nI (min (a / 10) (b / 10))), .int (nI (max (a / 10) (b / 10)))]) (rest := []) (m_EX_warm E N xs) hM rfl kw_X9_82 rfl (y_in) rfl (Nat.le_of_ble_eq_true rfl) (Nat.le_of_ble_eq_true rfl) (Nat.le_of_ble_eq_true rfl) (fun ht => ⟨ht, Nat.le_refl _⟩) ?_
    rw [k_imN (by omega) (by omega) (by omega)]
    cases hy : (decide (min (a / 10) (b / 10) ≤ s / 10) && decide (s / 10 ≤ max (a / 10) (b / 10))) with
    | false =>
      refine m_J_run hM 1 rfl ⟨trivial, trivial⟩ ?_
      refine m_J_if (fun _ => ?_) (fun hc => absurd (rfl) hc)
      refine m_J_run hM 1 rfl ⟨trivial, trivial⟩ ?_
      exact m_iret hM rfl rfl (by decide) (Nat.le_of_ble_eq_true rfl) (Nat.le_of_ble_eq_true rfl) (by rw [k_in, hx, Bool.true_and, hy]; rfl) (rfl)
    | true =>
      refine m_J_run hM 1 rfl ⟨trivial, trivial⟩ ?_
      refine m_J_if (fun hc => absurd hc (by decide)) (fun _ => ?_)
      refine m_J_run hM 2 rfl ⟨trivial, trivial, trivial⟩ ?_
      exact m_iret hM rfl rfl (by decide) (Nat.le_of_ble_eq_true rfl) (Nat.le_of_ble_eq_true rfl) (by rw [k_in, hx, Bool.true_and, hy]; rfl) (rfl)
set_option maxHeartbeats 2000000 in
theorem y_apart {s t : Nat} (hs : s < 60) (ht : t < 60) : m_Dt l (m_EX E N xs) E mM_X9_apart d 0 0 [.int (nI s), .int (nI t)] h tg (some (.int (nI (k_apN s t)))) h tg := by
  have hM := mM_X9_apart_ok
  refine m_Sp_of (by decide) (Nat.le_of_ble_eq_true rfl) ?_
  refine m_J_run hM 2 rfl ⟨trivial, trivial, trivial⟩ ?_
  refine m_J_run hM 1 rfl ⟨(by decide), trivial⟩ ?_
  rw [k_rem10 (a := s) (by omega)]
  refine m_J_run hM 2 rfl ⟨trivial, trivial, trivial⟩ ?_
  refine m_J_run hM 1 rfl ⟨(by decide), trivial⟩ ?_
  rw [k_rem10 (a := t) (by omega)]
  refine m_J_run hM 1 rfl ⟨trivial, trivial⟩ ?_
  refine m_abs hM rfl kw_X9_112 (Nat.le_of_ble_eq_true rfl) (Nat.le_of_ble_eq_true rfl) (Nat.le_of_ble_eq_true rfl) ?_
  rw [k_abN (a := s % 10) (by omega) (b := t % 10) (by omega)]
  refine m_J_run hM 2 rfl ⟨trivial, trivial, trivial⟩ ?_
  refine m_J_run hM 1 rfl ⟨(by decide), trivial⟩ ?_
  rw [k_div10 (a := s) (by omega)]
  refine m_J_run hM 2 rfl ⟨trivial, trivial, trivial⟩ ?_
  refine m_J_run hM 1 rfl ⟨(by decide), trivial⟩ ?_
  rw [k_div10 (a := t) (by omega)]
  refine m_J_run hM 1 rfl ⟨trivial, trivial⟩ ?_
  refine m_abs hM rfl kw_X9_112 (Nat.le_of_ble_eq_true rfl) (Nat.le_of_ble_eq_true rfl) (Nat.le_of_ble_eq_true rfl) ?_
  rw [k_abN (a := s / 10) (by omega) (b := t / 10) (by omega)]
  refine m_max hM rfl kw_X9_92 (Nat.le_of_ble_eq_true rfl) (Nat.le_of_ble_eq_true rfl) (Nat.le_of_ble_eq_true rfl) ?_
  rw [k_maxN (by omega) (by omega)]
  exact m_iret hM rfl rfl rfl (Nat.le_of_ble_eq_true rfl) (Nat.le_of_ble_eq_true rfl) (rfl) (rfl)
end
