/-! THE MODEL: can, best, given, take, cost (written by wip/gen_model9.py) -/
def y_SK (K : Nat → Nat) (aK aO aT aW aS aL so : Nat → Int32) (ls : Nat) (fz : Nat → Bool) (u : Nat → Int32) (pL : Nat → Nat) (n : Nat) (x b : Int32) : Bool × Int32 × (Nat → Nat) := y_sk K aK aO aT aW aS aL so ls fz u (y_pp fz pL 60) n x b (4 ^ n)
theorem y_gvE {fz : Nat → Bool} {u : Nat → Int32} {D : Nat → Nat} {a n : Nat} (ha : a < 60) (hn : fb_ct fz 60 = n) : (if fz a = true ∧ fb_ct fz a < n then nI (D (fb_ct fz a)) else u a) = y_us fz u D a := by
  unfold y_us
  by_cases h : fz a = true
  · rw [if_pos ⟨h, by rw [← hn]; exact y_fb_lt ha h⟩, if_pos ⟨ha, h⟩]
  · rw [if_neg (fun q => h q.1), if_neg (fun q => h q.2)]
theorem y_gvN {fz : Nat → Bool} {u : Nat → Int32} {D : Nat → Nat} {a p i : Nat} (hp2 : fz p = true) (hp3 : fb_ct fz p = i) (h5 : ¬ p = a) : (if fz a = true ∧ fb_ct fz a < i + 1 then nI (D (fb_ct fz a)) else u a) = (if fz a = true ∧ fb_ct fz a < i then nI (D (fb_ct fz a)) else u a) := by
  by_cases h : fz a = true ∧ fb_ct fz a < i
  · rw [if_pos h, if_pos ⟨h.1, by omega⟩]
  · rw [if_neg h, if_neg (fun q => h ⟨q.1, Nat.lt_of_le_of_ne (by omega) (fun e => h5 (fb_ct_kth_one hp2 q.1 (by rw [hp3, e])))⟩)]
theorem y_gvS {fz : Nat → Bool} {u : Nat → Int32} {D : Nat → Nat} {a p i : Nat} (hp2 : fz p = true) (hp3 : fb_ct fz p = i) (h5 : p = a) : (if fz a = true ∧ fb_ct fz a < i + 1 then nI (D (fb_ct fz a)) else u a) = nI (D i) := by
  subst h5
  rw [if_pos ⟨hp2, by omega⟩, hp3]
section
variable {l : Launch} {E : mE} {N : Nat} {xs : Nat → Int32} {d : Nat} {tg : Bool} {Z : mH} {h : mH}
variable {th : Int32} {u : Nat → Int32} {so : Nat → Int32} {fz : Nat → Bool} {fs : Nat} {gt : Nat} {yr : Nat} {aK : Nat → Int32} {aO : Nat → Int32} {aT : Nat → Int32} {aH : Nat → Int32} {aW : Nat → Int32} {aS : Nat → Int32} {aL : Nat → Int32} {ls : Nat} {pl : Nat → Int32} {ps : Nat} {tp : Nat → Int32} {td : Nat} {pt : Nat} {en : Nat} {bg : Nat} {fa : Int32} {fv : Nat → Int32} {mt : Nat → Bool} {nx : Nat → Int32} {pL : Nat → Nat} {sg : Nat → Int32} {bo : Nat → Int32} {wa : Nat → Int32} {gv : Nat → Int32} {bw : Int32} {of : Nat → Int32} {o : mH}
set_option maxHeartbeats 2000000 in
theorem y_can (hZ : Z.length = 70) {K U : Nat → Nat} (hls : ls ≤ 14) (hK : ∀ k, k < ls → K k ≤ 6 ∧ aK k = nI (K k)) (hfs : fb_ct fz 60 = fs) (hf5 : fs ≤ 5) (hu : ∀ s, s < 60 → u s = nI (U s)) : m_Sp l (m_EX E N xs) E mM_X9_can (d + 5) 0 0 [.ref 70] (Z ++ k_M th u so fz fs gt yr aK aO aT aH aW aS aL ls pl ps tp td pt en bg fa fv mt nx pL sg bo wa gv bw of o) tg (fun v H tg' => tg' = tg ∧ (v = some (.int (k_z (y_SK K aK aO aT aW aS aL so ls fz u pL fs (-nI 1) bw).1)) ∧ ∃ (p : Nat → Nat) (q r w g : Nat → Int32) (m : Nat → Bool) (b : Int32), H = (Z ++ k_M (nI 0) u so fz fs gt yr aK aO aT aH aW aS aL ls pl ps tp td pt en bg fa fv m nx p q r w g b of o))) m_no := by
  have hM := mM_X9_can_ok
  refine m_Sp_of (by decide) (Nat.le_of_ble_eq_true rfl) ?_
  refine m_J_run hM 2 rfl ⟨trivial, trivial, trivial⟩ ?_
  refine m_J_putf hM rfl rfl (kZ hZ 0 rfl) (rfl) ?_
  refine m_J_eqH (H' := (Z ++ k_M (nI 0) u so fz fs gt yr aK aO aT aH aW aS aL ls pl ps tp td pt en bg fa fv mt nx pL sg bo wa gv bw of o)) (kZs hZ 0 rfl) ?_
  refine m_J_run hM 2 rfl ⟨trivial, trivial, trivial⟩ ?_
  refine m_cVp1 hZ hM rfl kw_X9_266 rfl rfl rfl (y_seeks hZ (x := -nI 1) hls hK hfs hf5 hu) (Nat.le_of_ble_eq_true rfl) (fun v9 h9 hp9 => ?_)
  obtain ⟨rfl, sg14, bo14, wa14, gv14, mt14, hg14, rfl⟩ := hp9
  refine ⟨k_le rfl, ?_⟩
  refine m_J_eqH (H' := (Z ++ k_M (nI 0) u so fz fs gt yr aK aO aT aH aW aS aL ls pl ps tp td pt en bg fa fv mt14 nx (y_pp fz pL 60) sg14 bo14 wa14 gv14 ((y_SK K aK aO aT aW aS aL so ls fz u pL fs (-nI 1) bw).2.1) of o)) rfl ?_
  exact m_J_iret hM rfl rfl (k_z_nar _) (Nat.le_of_ble_eq_true rfl) (Nat.le_of_ble_eq_true rfl) (⟨rfl, rfl, _, _, _, _, _, _, _, rfl⟩)
set_option maxHeartbeats 2000000 in
theorem y_best (hZ : Z.length = 70) {K U : Nat → Nat} (hls : ls ≤ 14) (hK : ∀ k, k < ls → K k ≤ 6 ∧ aK k = nI (K k)) (hfs : fb_ct fz 60 = fs) (hf5 : fs ≤ 5) (hu : ∀ s, s < 60 → u s = nI (U s)) (hb : (y_SK K aK aO aT aW aS aL so ls fz u pL fs (-nI 1) bw).1 = true) : m_Sp l (m_EX E N xs) E mM_X9_best (d + 5) 0 0 [.ref 70] (Z ++ k_M th u so fz fs gt yr aK aO aT aH aW aS aL ls pl ps tp td pt en bg fa fv mt nx pL sg bo wa gv bw of o) tg (fun v H tg' => tg' = tg ∧ (v = some (.int (y_SK K aK aO aT aW aS aL so ls fz u pL fs (-nI 1) bw).2.1) ∧ ∃ (p : Nat → Nat) (q r w g : Nat → Int32) (m : Nat → Bool) (b : Int32), H = (Z ++ k_M (nI 0) u so fz fs gt yr aK aO aT aH aW aS aL ls pl ps tp td pt en bg fa fv m nx p q r w g b of o))) m_no := by
  have hM := mM_X9_best_ok
  refine m_Sp_of (by decide) (Nat.le_of_ble_eq_true rfl) ?_
  refine m_J_run hM 2 rfl ⟨trivial, trivial, trivial⟩ ?_
  refine m_J_putf hM rfl rfl (kZ hZ 0 rfl) (rfl) ?_
  refine m_J_eqH (H' := (Z ++ k_M (nI 0) u so fz fs gt yr aK aO aT aH aW aS aL ls pl ps tp td pt en bg fa fv mt nx pL sg bo wa gv bw of o)) (kZs hZ 0 rfl) ?_
  refine m_J_run hM 3 rfl ⟨trivial, trivial, trivial, trivial⟩ ?_
  refine m_cVp1 hZ hM rfl kw_X9_266 rfl rfl rfl (y_seeks hZ (x := -nI 1) hls hK hfs hf5 hu) (Nat.le_of_ble_eq_true rfl) (fun v9 h9 hp9 => ?_)
  obtain ⟨rfl, sg27, bo27, wa27, gv27, mt27, hg27, rfl⟩ := hp9
  refine ⟨k_le rfl, ?_⟩
  refine m_J_eqH (H' := (Z ++ k_M (nI 0) u so fz fs gt yr aK aO aT aH aW aS aL ls pl ps tp td pt en bg fa fv mt27 nx (y_pp fz pL 60) sg27 bo27 wa27 gv27 ((y_SK K aK aO aT aW aS aL so ls fz u pL fs (-nI 1) bw).2.1) of o)) rfl ?_
  rw [show (y_sk K aK aO aT aW aS aL so ls fz u (y_pp fz pL 60) fs (-nI 1) bw (4 ^ fs)).1 = true from hb]
  refine m_J_run hM 1 rfl ⟨trivial, trivial⟩ ?_
  refine m_J_if (fun _ => ?_) (fun hc => absurd (by decide) hc)
  refine m_J_run hM 2 rfl ⟨trivial, trivial, trivial⟩ ?_
  refine m_cV2 hZ hM rfl kw_X9_99 rfl rfl rfl (y_tif hZ (b := false) (x := nI 1)) rfl (Nat.le_of_ble_eq_true rfl) ?_
  refine m_J_eqH (H' := (Z ++ k_M (nI 0) u so fz fs gt yr aK aO aT aH aW aS aL ls pl ps tp td pt en bg fa fv mt27 nx (y_pp fz pL 60) sg27 bo27 wa27 gv27 ((y_SK K aK aO aT aW aS aL so ls fz u pL fs (-nI 1) bw).2.1) of o)) rfl ?_
  refine m_J_run hM 1 rfl ⟨trivial, trivial⟩ ?_
  refine m_J_if (fun _ => ?_) (fun hc => absurd (by decide) hc)
  refine m_J_run hM 1 rfl ⟨trivial, trivial⟩ ?_
  refine m_J_getf hM rfl rfl (kZ hZ 0 rfl) (rfl) ?_
  exact m_J_iret hM rfl rfl (rfl) (Nat.le_of_ble_eq_true rfl) (Nat.le_of_ble_eq_true rfl) (⟨rfl, rfl, _, _, _, _, _, _, _, rfl⟩)
set_option maxHeartbeats 2000000 in
theorem y_best_x (hZ : Z.length = 70) {K U : Nat → Nat} (hls : ls ≤ 14) (hK : ∀ k, k < ls → K k ≤ 6 ∧ aK k = nI (K k)) (hfs : fb_ct fz 60 = fs) (hf5 : fs ≤ 5) (hu : ∀ s, s < 60 → u s = nI (U s)) (hb : (y_SK K aK aO aT aW aS aL so ls fz u pL fs (-nI 1) bw).1 = false) : m_Sp l (m_EX E N xs) E mM_X9_best (d + 5) 0 0 [.ref 70] (Z ++ k_M th u so fz fs gt yr aK aO aT aH aW aS aL ls pl ps tp td pt en bg fa fv mt nx pL sg bo wa gv bw of o) tg (fun v H tg' => tg' = tg ∧ (v = some (.int (nI 0)) ∧ ∃ (p : Nat → Nat) (q r w g : Nat → Int32) (m : Nat → Bool) (b : Int32), H = (Z ++ k_M (nI 1) u so fz fs gt yr aK aO aT aH aW aS aL ls pl ps tp td pt en bg fa fv m nx p q r w g b of o))) m_no := by
  have hM := mM_X9_best_ok
  refine m_Sp_of (by decide) (Nat.le_of_ble_eq_true rfl) ?_
  refine m_J_run hM 2 rfl ⟨trivial, trivial, trivial⟩ ?_
  refine m_J_putf hM rfl rfl (kZ hZ 0 rfl) (rfl) ?_
  refine m_J_eqH (H' := (Z ++ k_M (nI 0) u so fz fs gt yr aK aO aT aH aW aS aL ls pl ps tp td pt en bg fa fv mt nx pL sg bo wa gv bw of o)) (kZs hZ 0 rfl) ?_
  refine m_J_run hM 3 rfl ⟨trivial, trivial, trivial, trivial⟩ ?_
  refine m_cVp1 hZ hM rfl kw_X9_266 rfl rfl rfl (y_seeks hZ (x := -nI 1) hls hK hfs hf5 hu) (Nat.le_of_ble_eq_true rfl) (fun v9 h9 hp9 => ?_)
  obtain ⟨rfl, sg50, bo50, wa50, gv50, mt50, hg50, rfl⟩ := hp9
  refine ⟨k_le rfl, ?_⟩
  refine m_J_eqH (H' := (Z ++ k_M (nI 0) u so fz fs gt yr aK aO aT aH aW aS aL ls pl ps tp td pt en bg fa fv mt50 nx (y_pp fz pL 60) sg50 bo50 wa50 gv50 ((y_SK K aK aO aT aW aS aL so ls fz u pL fs (-nI 1) bw).2.1) of o)) rfl ?_
  rw [show (y_sk K aK aO aT aW aS aL so ls fz u (y_pp fz pL 60) fs (-nI 1) bw (4 ^ fs)).1 = false from hb]
  refine m_J_run hM 1 rfl ⟨trivial, trivial⟩ ?_
  refine m_J_if (fun hc => absurd hc (by decide)) (fun _ => ?_)
  refine m_J_run hM 3 rfl ⟨trivial, trivial, trivial, trivial⟩ ?_
  refine m_cV2 hZ hM rfl kw_X9_99 rfl rfl rfl (y_tif hZ (b := true) (x := nI 1)) rfl (Nat.le_of_ble_eq_true rfl) ?_
  refine m_J_eqH (H' := (Z ++ k_M (nI 1) u so fz fs gt yr aK aO aT aH aW aS aL ls pl ps tp td pt en bg fa fv mt50 nx (y_pp fz pL 60) sg50 bo50 wa50 gv50 ((y_SK K aK aO aT aW aS aL so ls fz u pL fs (-nI 1) bw).2.1) of o)) rfl ?_
  refine m_J_run hM 1 rfl ⟨trivial, trivial⟩ ?_
  refine m_J_if (fun hc => absurd hc (by decide)) (fun _ => ?_)
  refine m_J_run hM 2 rfl ⟨trivial, trivial, trivial⟩ ?_
  exact m_J_iret hM rfl rfl (rfl) (Nat.le_of_ble_eq_true rfl) (Nat.le_of_ble_eq_true rfl) (⟨rfl, rfl, _, _, _, _, _, _, _, rfl⟩)
set_option maxHeartbeats 2000000 in
theorem y_given_n (hZ : Z.length = 70) {K U : Nat → Nat} (hls : ls ≤ 14) (hK : ∀ k, k < ls → K k ≤ 6 ∧ aK k = nI (K k)) (hfs : fb_ct fz 60 = fs) (hf5 : fs ≤ 5) (hu : ∀ s, s < 60 → u s = nI (U s)) (hb : (y_SK K aK aO aT aW aS aL so ls fz u pL fs (-nI 1) bw).1 = false) {a : Nat} (ha : a < 60) : m_Sp l (m_EX E N xs) E mM_X9_given (d + 5) 0 0 [.ref 70, .int (nI a)] (Z ++ k_M th u so fz fs gt yr aK aO aT aH aW aS aL ls pl ps tp td pt en bg fa fv mt nx pL sg bo wa gv bw of o) tg (fun v H tg' => tg' = tg ∧ (v = some (.int (-nI 1)) ∧ ∃ (p : Nat → Nat) (q r w g : Nat → Int32) (m : Nat → Bool) (b : Int32), H = (Z ++ k_M (nI 0) u so fz fs gt yr aK aO aT aH aW aS aL ls pl ps tp td pt en bg fa fv m nx p q r w g b of o))) m_no := by
  have hM := mM_X9_given_ok
  refine m_Sp_of (by decide) (Nat.le_of_ble_eq_true rfl) ?_
  refine m_J_run hM 2 rfl ⟨trivial, trivial, trivial⟩ ?_
  refine m_J_putf hM rfl rfl (kZ hZ 0 rfl) (rfl) ?_
  refine m_J_eqH (H' := (Z ++ k_M (nI 0) u so fz fs gt yr aK aO aT aH aW aS aL ls pl ps tp td pt en bg fa fv mt nx pL sg bo wa gv bw of o)) (kZs hZ 0 rfl) ?_
  refine m_J_run hM 2 rfl ⟨trivial, trivial, trivial⟩ ?_
  refine m_cS1 hM rfl kw_X9_95 (y_nq) (Nat.le_of_ble_eq_true rfl) ?_
  rw [k_nq_ok ha]
  refine m_J_run hM 1 rfl ⟨trivial, trivial⟩ ?_
  refine m_cV2 hZ hM rfl kw_X9_99 rfl rfl rfl (y_tif hZ (b := false) (x := nI 1)) rfl (Nat.le_of_ble_eq_true rfl) ?_
  refine m_J_eqH (H' := (Z ++ k_M (nI 0) u so fz fs gt yr aK aO aT aH aW aS aL ls pl ps tp td pt en bg fa fv mt nx pL sg bo wa gv bw of o)) rfl ?_
  refine m_J_run hM 1 rfl ⟨trivial, trivial⟩ ?_
  refine m_J_if (fun _ => ?_) (fun hc => absurd (by decide) hc)
  refine m_J_run hM 2 rfl ⟨trivial, trivial, trivial⟩ ?_
  refine m_cVp1 hZ hM rfl kw_X9_266 rfl rfl rfl (y_seeks hZ (x := -nI 1) hls hK hfs hf5 hu) (Nat.le_of_ble_eq_true rfl) (fun v9 h9 hp9 => ?_)
  obtain ⟨rfl, sg80, bo80, wa80, gv80, mt80, hg80, rfl⟩ := hp9
  refine ⟨k_le rfl, ?_⟩
  refine m_J_eqH (H' := (Z ++ k_M (nI 0) u so fz fs gt yr aK aO aT aH aW aS aL ls pl ps tp td pt en bg fa fv mt80 nx (y_pp fz pL 60) sg80 bo80 wa80 gv80 ((y_SK K aK aO aT aW aS aL so ls fz u pL fs (-nI 1) bw).2.1) of o)) rfl ?_
  rw [show (y_sk K aK aO aT aW aS aL so ls fz u (y_pp fz pL 60) fs (-nI 1) bw (4 ^ fs)).1 = false from hb]
  refine m_J_run hM 1 rfl ⟨trivial, trivial⟩ ?_
  refine m_J_if (fun hc => absurd hc (by decide)) (fun _ => ?_)
  refine m_J_run hM 1 rfl ⟨trivial, trivial⟩ ?_
  exact m_J_iret hM rfl rfl (rfl) (Nat.le_of_ble_eq_true rfl) (Nat.le_of_ble_eq_true rfl) (⟨rfl, rfl, _, _, _, _, _, _, _, rfl⟩)
set_option maxHeartbeats 2000000 in
theorem y_given (hZ : Z.length = 70) {K U : Nat → Nat} (hls : ls ≤ 14) (hK : ∀ k, k < ls → K k ≤ 6 ∧ aK k = nI (K k)) (hfs : fb_ct fz 60 = fs) (hf5 : fs ≤ 5) (hu : ∀ s, s < 60 → u s = nI (U s)) (hb : (y_SK K aK aO aT aW aS aL so ls fz u pL fs (-nI 1) bw).1 = true) {a : Nat} (ha : a < 60) : m_Sp l (m_EX E N xs) E mM_X9_given (d + 5) 0 0 [.ref 70, .int (nI a)] (Z ++ k_M th u so fz fs gt yr aK aO aT aH aW aS aL ls pl ps tp td pt en bg fa fv mt nx pL sg bo wa gv bw of o) tg (fun v H tg' => tg' = tg ∧ (v = some (.int (y_us fz u (y_SK K aK aO aT aW aS aL so ls fz u pL fs (-nI 1) bw).2.2 a)) ∧ ∃ (p : Nat → Nat) (q r w g : Nat → Int32) (m : Nat → Bool) (b : Int32), H = (Z ++ k_M (nI 0) u so fz fs gt yr aK aO aT aH aW aS aL ls pl ps tp td pt en bg fa fv m nx p q r w g b of o))) m_no := by
  have hM := mM_X9_given_ok
  refine m_Sp_of (by decide) (Nat.le_of_ble_eq_true rfl) ?_
  refine m_J_run hM 2 rfl ⟨trivial, trivial, trivial⟩ ?_
  refine m_J_putf hM rfl rfl (kZ hZ 0 rfl) (rfl) ?_
  refine m_J_eqH (H' := (Z ++ k_M (nI 0) u so fz fs gt yr aK aO aT aH aW aS aL ls pl ps tp td pt en bg fa fv mt nx pL sg bo wa gv bw of o)) (kZs hZ 0 rfl) ?_
  refine m_J_run hM 2 rfl ⟨trivial, trivial, trivial⟩ ?_
  refine m_cS1 hM rfl kw_X9_95 (y_nq) (Nat.le_of_ble_eq_true rfl) ?_
  rw [k_nq_ok ha]
  refine m_J_run hM 1 rfl ⟨trivial, trivial⟩ ?_
  refine m_cV2 hZ hM rfl kw_X9_99 rfl rfl rfl (y_tif hZ (b := false) (x := nI 1)) rfl (Nat.le_of_ble_eq_true rfl) ?_
  refine m_J_eqH (H' := (Z ++ k_M (nI 0) u so fz fs gt yr aK aO aT aH aW aS aL ls pl ps tp td pt en bg fa fv mt nx pL sg bo wa gv bw of o)) rfl ?_
  refine m_J_run hM 1 rfl ⟨trivial, trivial⟩ ?_
  refine m_J_if (fun _ => ?_) (fun hc => absurd (by decide) hc)
  refine m_J_run hM 2 rfl ⟨trivial, trivial, trivial⟩ ?_
  refine m_cVp1 hZ hM rfl kw_X9_266 rfl rfl rfl (y_seeks hZ (x := -nI 1) hls hK hfs hf5 hu) (Nat.le_of_ble_eq_true rfl) (fun v9 h9 hp9 => ?_)
  obtain ⟨rfl, sg105, bo105, wa105, gv105, mt105, hg105, rfl⟩ := hp9
  refine ⟨k_le rfl, ?_⟩
  refine m_J_eqH (H' := (Z ++ k_M (nI 0) u so fz fs gt yr aK aO aT aH aW aS aL ls pl ps tp td pt en bg fa fv mt105 nx (y_pp fz pL 60) sg105 bo105 wa105 gv105 ((y_SK K aK aO aT aW aS aL so ls fz u pL fs (-nI 1) bw).2.1) of o)) rfl ?_
  rw [show (y_sk K aK aO aT aW aS aL so ls fz u (y_pp fz pL 60) fs (-nI 1) bw (4 ^ fs)).1 = true from hb]
  have hg9 : ∀ i, i < fs → gv105 i = nI ((y_SK K aK aO aT aW aS aL so ls fz u pL fs (-nI 1) bw).2.2 i) := fun i hi => hg105 hb i hi
  have hP := y_pp_lt fz pL 60
  rw [hfs] at hP
  refine m_J_run hM 1 rfl ⟨trivial, trivial⟩ ?_
  refine m_J_if (fun _ => ?_) (fun hc => absurd (by decide) hc)
  refine m_J_run hM 1 rfl ⟨trivial, trivial⟩ ?_
  refine m_J_getf hM rfl rfl (kZ hZ 0 rfl) (rfl) ?_
  refine m_J_run hM 1 rfl ⟨trivial, trivial⟩ ?_
  refine m_ialdN hM rfl (kZ hZ 1 rfl) (by omega) (by omega) ?_
  refine m_J_run hM 3 rfl ⟨trivial, trivial, trivial, trivial⟩ ?_
  have LP : ∀ (n9 i : Nat), i + n9 = fs → m_J l (m_EX E N xs) E mM_X9_given (d + 5) 0 0 (fun v H tg' => tg' = tg ∧ (v = some (.int (y_us fz u (y_SK K aK aO aT aW aS aL so ls fz u pL fs (-nI 1) bw).2.2 a)) ∧ ∃ (p : Nat → Nat) (q r w g : Nat → Int32) (m : Nat → Bool) (b : Int32), H = (Z ++ k_M (nI 0) u so fz fs gt yr aK aO aT aH aW aS aL ls pl ps tp td pt en bg fa fv m nx p q r w g b of o))) m_no tg 0 0 (38, [some (.ref 70), some (.int (nI a)), some (.int (if fz a = true ∧ fb_ct fz a < i then nI ((y_SK K aK aO aT aW aS aL so ls fz u pL fs (-nI 1) bw).2.2 (fb_ct fz a)) else u a)), some (.int (nI i))], [], (Z ++ k_M (nI 0) u so fz fs gt yr aK aO aT aH aW aS aL ls pl ps tp td pt en bg fa fv mt105 nx (y_pp fz pL 60) sg105 bo105 wa105 gv105 ((y_SK K aK aO aT aW aS aL so ls fz u pL fs (-nI 1) bw).2.1) of o)) := by
    intro n9
    induction n9 with
    | zero =>
      intro i  hi 
      have e9 : i = fs := by omega
      rw [e9]
      refine m_J_run hM 2 rfl ⟨trivial, trivial, trivial⟩ ?_
      refine m_J_getf hM rfl rfl (kZ hZ 0 rfl) (rfl) ?_
      refine m_J_run hM 1 rfl ⟨trivial, trivial⟩ ?_
      refine m_J_if (fun _ => ?_) (fun hc => absurd (nI_le (by omega) (by omega)) hc)
      refine m_J_run hM 1 rfl ⟨trivial, trivial⟩ ?_
      exact m_J_iret hM rfl rfl (rfl) (Nat.le_of_ble_eq_true rfl) (Nat.le_of_ble_eq_true rfl) (⟨rfl, by rw [y_gvE ha hfs], _, _, _, _, _, _, _, rfl⟩)
    | succ n9 ih =>
      intro i  hi 
      obtain ⟨hp1, hp2, hp3⟩ := hP i (by omega)
      refine m_J_run hM 2 rfl ⟨trivial, trivial, trivial⟩ ?_
      refine m_J_getf hM rfl rfl (kZ hZ 0 rfl) (rfl) ?_
      refine m_J_run hM 1 rfl ⟨trivial, trivial⟩ ?_
      refine m_J_if (fun hc => absurd hc (nI_ge (by omega) (by omega))) (fun _ => ?_)
      refine m_J_run hM 1 rfl ⟨trivial, trivial⟩ ?_
      refine m_J_getf hM rfl rfl (kZ hZ 0 rfl) (rfl) ?_
      refine m_J_run hM 1 rfl ⟨trivial, trivial⟩ ?_
      refine m_ialdN hM rfl (kZ hZ 16 rfl) (by omega) (by omega) ?_
      refine m_J_run hM 1 rfl ⟨trivial, trivial⟩ ?_
      refine m_J_run hM 1 rfl ⟨trivial, trivial⟩ ?_
      refine m_J_if (fun h5 => ?_) (fun h5 => ?_)
      ·
        rw [nI_eq (by omega) (by omega)] at h5
        refine m_J_run hM 2 rfl ⟨trivial, trivial, trivial⟩ ?_
        rw [nI_add i 1]
        have h9 := ih (i + 1) (by omega)
        rw [y_gvN hp2 hp3 h5] at h9
        exact h9
      ·
        rw [nI_eq (by omega) (by omega)] at h5
        have h5 := Classical.not_not.mp h5
        refine m_J_run hM 1 rfl ⟨trivial, trivial⟩ ?_
        refine m_J_getf hM rfl rfl (kZ hZ 0 rfl) (rfl) ?_
        refine m_J_run hM 1 rfl ⟨trivial, trivial⟩ ?_
        refine m_ialdN hM rfl (kZ hZ 20 rfl) (by omega) (by omega) ?_
        refine m_J_run hM 3 rfl ⟨trivial, trivial, trivial, trivial⟩ ?_
        rw [nI_add i 1]
        have h9 := ih (i + 1) (by omega)
        rw [y_gvS hp2 hp3 h5] at h9
        rw [← hg9 i (by omega)] at h9
        exact h9
  have h9 := LP fs 0 (by omega)
  rw [if_neg (fun q => absurd q.2 (by omega))] at h9
  exact h9
set_option maxHeartbeats 2000000 in
theorem y_given_x (hZ : Z.length = 70) {x : Int32} (hx : k_nq x = true) : m_Dt l (m_EX E N xs) E mM_X9_given (d + 5) 0 0 [.ref 70, .int x] (Z ++ k_M th u so fz fs gt yr aK aO aT aH aW aS aL ls pl ps tp td pt en bg fa fv mt nx pL sg bo wa gv bw of o) tg (some (.int (nI 0))) (Z ++ k_M (nI 1) u so fz fs gt yr aK aO aT aH aW aS aL ls pl ps tp td pt en bg fa fv mt nx pL sg bo wa gv bw of o) tg := by
  have hM := mM_X9_given_ok
  refine m_Sp_of (by decide) (Nat.le_of_ble_eq_true rfl) ?_
  refine m_J_run hM 2 rfl ⟨trivial, trivial, trivial⟩ ?_
  refine m_J_putf hM rfl rfl (kZ hZ 0 rfl) (rfl) ?_
  refine m_J_eqH (H' := (Z ++ k_M (nI 0) u so fz fs gt yr aK aO aT aH aW aS aL ls pl ps tp td pt en bg fa fv mt nx pL sg bo wa gv bw of o)) (kZs hZ 0 rfl) ?_
  refine m_J_run hM 2 rfl ⟨trivial, trivial, trivial⟩ ?_
  refine m_cS1 hM rfl kw_X9_95 (y_nq) (Nat.le_of_ble_eq_true rfl) ?_
  rw [hx]
  refine m_J_run hM 1 rfl ⟨trivial, trivial⟩ ?_
  refine m_cV2 hZ hM rfl kw_X9_99 rfl rfl rfl (y_tif hZ (b := true) (x := nI 1)) rfl (Nat.le_of_ble_eq_true rfl) ?_
  refine m_J_eqH (H' := (Z ++ k_M (nI 1) u so fz fs gt yr aK aO aT aH aW aS aL ls pl ps tp td pt en bg fa fv mt nx pL sg bo wa gv bw of o)) rfl ?_
  refine m_J_run hM 1 rfl ⟨trivial, trivial⟩ ?_
  refine m_J_if (fun hc => absurd hc (by decide)) (fun _ => ?_)
  refine m_J_run hM 1 rfl ⟨trivial, trivial⟩ ?_
  exact m_iret hM rfl rfl (rfl) (Nat.le_of_ble_eq_true rfl) (Nat.le_of_ble_eq_true rfl) (rfl) (rfl)
set_option maxHeartbeats 2000000 in
theorem y_take_n (hZ : Z.length = 70) {K U : Nat → Nat} (hls : ls ≤ 14) (hK : ∀ k, k < ls → K k ≤ 6 ∧ aK k = nI (K k)) (hfs : fb_ct fz 60 = fs) (hf5 : fs ≤ 5) (hu : ∀ s, s < 60 → u s = nI (U s)) (hb : (y_SK K aK aO aT aW aS aL so ls fz u pL fs (-nI 1) bw).1 = false) : m_Sp l (m_EX E N xs) E mM_X9_take (d + 5) 0 0 [.ref 70] (Z ++ k_M th u so fz fs gt yr aK aO aT aH aW aS aL ls pl ps tp td pt en bg fa fv mt nx pL sg bo wa gv bw of o) tg (fun v H tg' => tg' = tg ∧ (v = some (.int (nI 0)) ∧ ∃ (p : Nat → Nat) (q r w g : Nat → Int32) (m : Nat → Bool) (b : Int32), H = (Z ++ k_M (nI 0) u so fz fs gt yr aK aO aT aH aW aS aL ls pl ps tp td pt en bg fa fv m nx p q r w g b of o))) m_no := by
  have hM := mM_X9_take_ok
  refine m_Sp_of (by decide) (Nat.le_of_ble_eq_true rfl) ?_
  refine m_J_run hM 2 rfl ⟨trivial, trivial, trivial⟩ ?_
  refine m_J_putf hM rfl rfl (kZ hZ 0 rfl) (rfl) ?_
  refine m_J_eqH (H' := (Z ++ k_M (nI 0) u so fz fs gt yr aK aO aT aH aW aS aL ls pl ps tp td pt en bg fa fv mt nx pL sg bo wa gv bw of o)) (kZs hZ 0 rfl) ?_
  refine m_J_run hM 2 rfl ⟨trivial, trivial, trivial⟩ ?_
  refine m_cVp1 hZ hM rfl kw_X9_266 rfl rfl rfl (y_seeks hZ (x := -nI 1) hls hK hfs hf5 hu) (Nat.le_of_ble_eq_true rfl) (fun v9 h9 hp9 => ?_)
  obtain ⟨rfl, sg195, bo195, wa195, gv195, mt195, hg195, rfl⟩ := hp9
  refine ⟨k_le rfl, ?_⟩
  refine m_J_eqH (H' := (Z ++ k_M (nI 0) u so fz fs gt yr aK aO aT aH aW aS aL ls pl ps tp td pt en bg fa fv mt195 nx (y_pp fz pL 60) sg195 bo195 wa195 gv195 ((y_SK K aK aO aT aW aS aL so ls fz u pL fs (-nI 1) bw).2.1) of o)) rfl ?_
  rw [show (y_sk K aK aO aT aW aS aL so ls fz u (y_pp fz pL 60) fs (-nI 1) bw (4 ^ fs)).1 = false from hb]
  refine m_J_run hM 1 rfl ⟨trivial, trivial⟩ ?_
  refine m_J_if (fun hc => absurd hc (by decide)) (fun _ => ?_)
  refine m_J_run hM 1 rfl ⟨trivial, trivial⟩ ?_
  exact m_J_iret hM rfl rfl (by decide) (Nat.le_of_ble_eq_true rfl) (Nat.le_of_ble_eq_true rfl) (⟨rfl, rfl, _, _, _, _, _, _, _, rfl⟩)
set_option maxHeartbeats 2000000 in
theorem y_take (hZ : Z.length = 70) {K U : Nat → Nat} (hls : ls ≤ 14) (hK : ∀ k, k < ls → K k ≤ 6 ∧ aK k = nI (K k)) (hfs : fb_ct fz 60 = fs) (hf5 : fs ≤ 5) (hu : ∀ s, s < 60 → u s = nI (U s)) (hb : (y_SK K aK aO aT aW aS aL so ls fz u pL fs (-nI 1) bw).1 = true) : m_Sp l (m_EX E N xs) E mM_X9_take (d + 5) 0 0 [.ref 70] (Z ++ k_M th u so fz fs gt yr aK aO aT aH aW aS aL ls pl ps tp td pt en bg fa fv mt nx pL sg bo wa gv bw of o) tg (fun v H tg' => tg' = tg ∧ (v = some (.int (nI 1)) ∧ ∃ (p : Nat → Nat) (q r w g : Nat → Int32) (m : Nat → Bool) (b : Int32), H = (Z ++ k_M (nI 0) (y_us fz u (y_SK K aK aO aT aW aS aL so ls fz u pL fs (-nI 1) bw).2.2) so fz fs gt yr aK aO aT aH aW aS aL ls pl ps tp td pt en bg fa fv m nx p q r w g b of o))) m_no := by
  have hM := mM_X9_take_ok
  refine m_Sp_of (by decide) (Nat.le_of_ble_eq_true rfl) ?_
  refine m_J_run hM 2 rfl ⟨trivial, trivial, trivial⟩ ?_
  refine m_J_putf hM rfl rfl (kZ hZ 0 rfl) (rfl) ?_
  refine m_J_eqH (H' := (Z ++ k_M (nI 0) u so fz fs gt yr aK aO aT aH aW aS aL ls pl ps tp td pt en bg fa fv mt nx pL sg bo wa gv bw of o)) (kZs hZ 0 rfl) ?_
  refine m_J_run hM 2 rfl ⟨trivial, trivial, trivial⟩ ?_
  refine m_cVp1 hZ hM rfl kw_X9_266 rfl rfl rfl (y_seeks hZ (x := -nI 1) hls hK hfs hf5 hu) (Nat.le_of_ble_eq_true rfl) (fun v9 h9 hp9 => ?_)
  obtain ⟨rfl, sg212, bo212, wa212, gv212, mt212, hg212, rfl⟩ := hp9
  refine ⟨k_le rfl, ?_⟩
  refine m_J_eqH (H' := (Z ++ k_M (nI 0) u so fz fs gt yr aK aO aT aH aW aS aL ls pl ps tp td pt en bg fa fv mt212 nx (y_pp fz pL 60) sg212 bo212 wa212 gv212 ((y_SK K aK aO aT aW aS aL so ls fz u pL fs (-nI 1) bw).2.1) of o)) rfl ?_
  rw [show (y_sk K aK aO aT aW aS aL so ls fz u (y_pp fz pL 60) fs (-nI 1) bw (4 ^ fs)).1 = true from hb]
  have hg9 : ∀ i, i < fs → gv212 i = nI ((y_SK K aK aO aT aW aS aL so ls fz u pL fs (-nI 1) bw).2.2 i) := fun i hi => hg212 hb i hi
  have hP := y_pp_lt fz pL 60
  rw [hfs] at hP
  refine m_J_run hM 1 rfl ⟨trivial, trivial⟩ ?_
  refine m_J_if (fun _ => ?_) (fun hc => absurd (by decide) hc)
  refine m_J_run hM 2 rfl ⟨trivial, trivial, trivial⟩ ?_
  generalize hS : (y_SK K aK aO aT aW aS aL so ls fz u pL fs (-nI 1) bw) = S at hg9 ⊢
  generalize y_pp fz pL 60 = P9 at hP ⊢
  have LP : ∀ (n9 i : Nat), i + n9 = fs → m_J l (m_EX E N xs) E mM_X9_take (d + 5) 0 0 (fun v H tg' => tg' = tg ∧ (v = some (.int (nI 1)) ∧ ∃ (p : Nat → Nat) (q r w g : Nat → Int32) (m : Nat → Bool) (b : Int32), H = (Z ++ k_M (nI 0) (y_us fz u S.2.2) so fz fs gt yr aK aO aT aH aW aS aL ls pl ps tp td pt en bg fa fv m nx p q r w g b of o))) m_no tg 0 0 (17, [some (.ref 70), some (.int (nI i))], [], (Z ++ k_M (nI 0) (y_us fz u (k_upN S.2.2 (fun i => U (P9 i)) i)) so fz fs gt yr aK aO aT aH aW aS aL ls pl ps tp td pt en bg fa fv mt212 nx P9 sg212 bo212 wa212 gv212 S.2.1 of o)) := by
    intro n9
    induction n9 with
    | zero =>
      intro i  hi 
      have e9 : i = fs := by omega
      rw [e9]
      refine m_J_run hM 2 rfl ⟨trivial, trivial, trivial⟩ ?_
      refine m_J_getf hM rfl rfl (kZ hZ 0 rfl) (rfl) ?_
      refine m_J_run hM 1 rfl ⟨trivial, trivial⟩ ?_
      refine m_J_if (fun _ => ?_) (fun hc => absurd (nI_le (by omega) (by omega)) hc)
      refine m_J_run hM 1 rfl ⟨trivial, trivial⟩ ?_
      rw [y_us_cong (D := k_upN S.2.2 (fun i => U (P9 i)) fs) (D2 := S.2.2) hfs (fun i hi => by rw [k_upN, if_pos hi])]
      exact m_J_iret hM rfl rfl (by decide) (Nat.le_of_ble_eq_true rfl) (Nat.le_of_ble_eq_true rfl) (⟨rfl, rfl, _, _, _, _, _, _, _, rfl⟩)
    | succ n9 ih =>
      intro i  hi 
      obtain ⟨hp1, hp2, hp3⟩ := hP i (by omega)
      refine m_J_run hM 2 rfl ⟨trivial, trivial, trivial⟩ ?_
      refine m_J_getf hM rfl rfl (kZ hZ 0 rfl) (rfl) ?_
      refine m_J_run hM 1 rfl ⟨trivial, trivial⟩ ?_
      refine m_J_if (fun hc => absurd hc (nI_ge (by omega) (by omega))) (fun _ => ?_)
      refine m_J_run hM 1 rfl ⟨trivial, trivial⟩ ?_
      refine m_J_getf hM rfl rfl (kZ hZ 0 rfl) (rfl) ?_
      refine m_J_run hM 1 rfl ⟨trivial, trivial⟩ ?_
      refine m_J_getf hM rfl rfl (kZ hZ 0 rfl) (rfl) ?_
      refine m_J_run hM 1 rfl ⟨trivial, trivial⟩ ?_
      refine m_ialdN hM rfl (kZ hZ 16 rfl) (by omega) (by omega) ?_
      refine m_J_run hM 1 rfl ⟨trivial, trivial⟩ ?_
      refine m_J_getf hM rfl rfl (kZ hZ 0 rfl) (rfl) ?_
      refine m_J_run hM 1 rfl ⟨trivial, trivial⟩ ?_
      refine m_ialdN hM rfl (kZ hZ 20 rfl) (by omega) (by omega) ?_
      rw [hg9 i (by omega)]
      refine m_iastN hM rfl (kZ hZ 1 rfl) (by omega) (by omega) ?_
      refine m_J_eqH (H' := (Z ++ k_M (nI 0) (upd (y_us fz u (k_upN S.2.2 (fun i => U (P9 i)) i)) (P9 i) (nI (S.2.2 i))) so fz fs gt yr aK aO aT aH aW aS aL ls pl ps tp td pt en bg fa fv mt212 nx P9 sg212 bo212 wa212 gv212 S.2.1 of o)) (kZs hZ 1 (rfl)) ?_
      refine m_J_run hM 2 rfl ⟨trivial, trivial, trivial⟩ ?_
      rw [nI_add i 1]
      rw [show (upd (y_us fz u (k_upN S.2.2 (fun i => U (P9 i)) i)) (P9 i) (nI (S.2.2 i))) = y_us fz u (k_upN S.2.2 (fun i => U (P9 i)) (i + 1)) from (y_us_upd hp1 hp2 hp3).trans (by rw [k_upN_s])]
      have h9 := ih (i + 1) (by omega)
      exact h9
  have h9 := LP fs 0 (by omega)
  rw [k_upN_0, y_us_id hfs hu hP] at h9
  exact h9
set_option maxHeartbeats 2000000 in
theorem y_cost (hZ : Z.length = 70) {K U : Nat → Nat} (hls : ls ≤ 14) (hK : ∀ k, k < ls → K k ≤ 6 ∧ aK k = nI (K k)) (hfs : fb_ct fz 60 = fs) (hf5 : fs ≤ 5) (hu : ∀ s, s < 60 → u s = nI (U s)) (hb : (y_SK K aK aO aT aW aS aL so ls fz u pL fs (-nI 1) bw).1 = true) {k : Nat} (hk : k < ls) (hl : y_isl aK k = true) : m_Sp l (m_EX E N xs) E mM_X9_cost (d + 5) 0 0 [.ref 70, .int (nI k)] (Z ++ k_M th u so fz fs gt yr aK aO aT aH aW aS aL ls pl ps tp td pt en bg fa fv mt nx pL sg bo wa gv bw of o) tg (fun v H tg' => tg' = tg ∧ (v = some (.int ((y_SK K aK aO aT aW aS aL so ls fz u (y_pp fz pL 60) fs (nI k) (y_SK K aK aO aT aW aS aL so ls fz u pL fs (-nI 1) bw).2.1).2.1 - (y_SK K aK aO aT aW aS aL so ls fz u pL fs (-nI 1) bw).2.1)) ∧ ∃ (p : Nat → Nat) (q r w g : Nat → Int32) (m : Nat → Bool) (b : Int32), H = (Z ++ k_M (nI 0) u so fz fs gt yr aK aO aT aH aW aS aL ls pl ps tp td pt en bg fa fv m nx p q r w g b of o))) m_no := by
  have hM := mM_X9_cost_ok
  refine m_Sp_of (by decide) (Nat.le_of_ble_eq_true rfl) ?_
  refine m_J_run hM 2 rfl ⟨trivial, trivial, trivial⟩ ?_
  refine m_J_putf hM rfl rfl (kZ hZ 0 rfl) (rfl) ?_
  refine m_J_eqH (H' := (Z ++ k_M (nI 0) u so fz fs gt yr aK aO aT aH aW aS aL ls pl ps tp td pt en bg fa fv mt nx pL sg bo wa gv bw of o)) (kZs hZ 0 rfl) ?_
  refine m_J_run hM 4 rfl ⟨trivial, trivial, trivial, trivial, trivial⟩ ?_
  refine m_J_getf hM rfl rfl (kZ hZ 0 rfl) (rfl) ?_
  refine m_J_run hM 2 rfl ⟨trivial, trivial, trivial⟩ ?_
  rw [show nI ls - nI 1 = nI (ls - 1) from pk_sub (by omega)]
  refine m_cS3 hM rfl kw_X9_82 (y_in) (Nat.le_of_ble_eq_true rfl) ?_
  rw [show k_im (nI k) (nI 0) (nI (ls - 1)) = true by rw [k_imN (by omega) (by omega) (by omega)]; simp; omega]
  refine m_J_run hM 1 rfl ⟨trivial, trivial⟩ ?_
  refine m_J_if (fun _ => ?_) (fun hc => absurd (by decide) hc)
  refine m_J_run hM 2 rfl ⟨trivial, trivial, trivial⟩ ?_
  refine m_cV2 hZ hM rfl kw_X9_99 rfl rfl rfl (y_tif hZ (b := false) (x := nI 1)) rfl (Nat.le_of_ble_eq_true rfl) ?_
  refine m_J_eqH (H' := (Z ++ k_M (nI 0) u so fz fs gt yr aK aO aT aH aW aS aL ls pl ps tp td pt en bg fa fv mt nx pL sg bo wa gv bw of o)) rfl ?_
  refine m_J_run hM 1 rfl ⟨trivial, trivial⟩ ?_
  refine m_J_if (fun hc => absurd hc (by decide)) (fun _ => ?_)
  refine m_J_run hM 3 rfl ⟨trivial, trivial, trivial, trivial⟩ ?_
  refine m_cV1 hZ hM rfl kw_X9_269 rfl rfl rfl (y_isLaw hZ (by omega)) rfl (Nat.le_of_ble_eq_true rfl) ?_
  rw [hl]
  refine m_J_run hM 1 rfl ⟨trivial, trivial⟩ ?_
  refine m_J_if (fun hc => absurd hc (by decide)) (fun _ => ?_)
  refine m_J_run hM 2 rfl ⟨trivial, trivial, trivial⟩ ?_
  refine m_cVp1 hZ hM rfl kw_X9_266 rfl rfl rfl (y_seeks hZ (x := -nI 1) hls hK hfs hf5 hu) (Nat.le_of_ble_eq_true rfl) (fun v9 h9 hp9 => ?_)
  obtain ⟨rfl, sg293, bo293, wa293, gv293, mt293, hg293, rfl⟩ := hp9
  refine ⟨k_le rfl, ?_⟩
  refine m_J_eqH (H' := (Z ++ k_M (nI 0) u so fz fs gt yr aK aO aT aH aW aS aL ls pl ps tp td pt en bg fa fv mt293 nx (y_pp fz pL 60) sg293 bo293 wa293 gv293 ((y_SK K aK aO aT aW aS aL so ls fz u pL fs (-nI 1) bw).2.1) of o)) rfl ?_
  rw [show (y_sk K aK aO aT aW aS aL so ls fz u (y_pp fz pL 60) fs (-nI 1) bw (4 ^ fs)).1 = true from hb]
  refine m_J_run hM 1 rfl ⟨trivial, trivial⟩ ?_
  refine m_J_if (fun _ => ?_) (fun hc => absurd (by decide) hc)
  refine m_J_run hM 2 rfl ⟨trivial, trivial, trivial⟩ ?_
  refine m_cV2 hZ hM rfl kw_X9_99 rfl rfl rfl (y_tif hZ (b := false) (x := nI 2)) rfl (Nat.le_of_ble_eq_true rfl) ?_
  refine m_J_eqH (H' := (Z ++ k_M (nI 0) u so fz fs gt yr aK aO aT aH aW aS aL ls pl ps tp td pt en bg fa fv mt293 nx (y_pp fz pL 60) sg293 bo293 wa293 gv293 ((y_SK K aK aO aT aW aS aL so ls fz u pL fs (-nI 1) bw).2.1) of o)) rfl ?_
  refine m_J_run hM 1 rfl ⟨trivial, trivial⟩ ?_
  refine m_J_if (fun _ => ?_) (fun hc => absurd (by decide) hc)
  refine m_J_run hM 1 rfl ⟨trivial, trivial⟩ ?_
  refine m_J_getf hM rfl rfl (kZ hZ 0 rfl) (rfl) ?_
  refine m_J_run hM 3 rfl ⟨trivial, trivial, trivial, trivial⟩ ?_
  refine m_cVp1 hZ hM rfl kw_X9_266 rfl rfl rfl (y_seeks hZ (x := nI k) hls hK hfs hf5 hu) (Nat.le_of_ble_eq_true rfl) (fun v9 h9 hp9 => ?_)
  obtain ⟨rfl, sg308, bo308, wa308, gv308, mt308, hg308, rfl⟩ := hp9
  refine ⟨k_le rfl, ?_⟩
  refine m_J_eqH (H' := (Z ++ k_M (nI 0) u so fz fs gt yr aK aO aT aH aW aS aL ls pl ps tp td pt en bg fa fv mt308 nx (y_pp fz (y_pp fz pL 60) 60) sg308 bo308 wa308 gv308 ((y_SK K aK aO aT aW aS aL so ls fz u (y_pp fz pL 60) fs (nI k) ((y_SK K aK aO aT aW aS aL so ls fz u pL fs (-nI 1) bw).2.1)).2.1) of o)) rfl ?_
  refine m_J_run hM 2 rfl ⟨trivial, trivial, trivial⟩ ?_
  refine m_J_getf hM rfl rfl (kZ hZ 0 rfl) (rfl) ?_
  refine m_J_run hM 2 rfl ⟨trivial, trivial, trivial⟩ ?_
  exact m_J_iret hM rfl rfl (rfl) (Nat.le_of_ble_eq_true rfl) (Nat.le_of_ble_eq_true rfl) (⟨rfl, rfl, _, _, _, _, _, _, _, rfl⟩)
set_option maxHeartbeats 2000000 in
theorem y_cost_n (hZ : Z.length = 70) {K U : Nat → Nat} (hls : ls ≤ 14) (hK : ∀ k, k < ls → K k ≤ 6 ∧ aK k = nI (K k)) (hfs : fb_ct fz 60 = fs) (hf5 : fs ≤ 5) (hu : ∀ s, s < 60 → u s = nI (U s)) (hb : (y_SK K aK aO aT aW aS aL so ls fz u pL fs (-nI 1) bw).1 = false) {k : Nat} (hk : k < ls) (hl : y_isl aK k = true) : m_Sp l (m_EX E N xs) E mM_X9_cost (d + 5) 0 0 [.ref 70, .int (nI k)] (Z ++ k_M th u so fz fs gt yr aK aO aT aH aW aS aL ls pl ps tp td pt en bg fa fv mt nx pL sg bo wa gv bw of o) tg (fun v H tg' => tg' = tg ∧ (v = some (.int (nI 0)) ∧ ∃ (p : Nat → Nat) (q r w g : Nat → Int32) (m : Nat → Bool) (b : Int32), H = (Z ++ k_M (nI 2) u so fz fs gt yr aK aO aT aH aW aS aL ls pl ps tp td pt en bg fa fv m nx p q r w g b of o))) m_no := by
  have hM := mM_X9_cost_ok
  refine m_Sp_of (by decide) (Nat.le_of_ble_eq_true rfl) ?_
  refine m_J_run hM 2 rfl ⟨trivial, trivial, trivial⟩ ?_
  refine m_J_putf hM rfl rfl (kZ hZ 0 rfl) (rfl) ?_
  refine m_J_eqH (H' := (Z ++ k_M (nI 0) u so fz fs gt yr aK aO aT aH aW aS aL ls pl ps tp td pt en bg fa fv mt nx pL sg bo wa gv bw of o)) (kZs hZ 0 rfl) ?_
  refine m_J_run hM 4 rfl ⟨trivial, trivial, trivial, trivial, trivial⟩ ?_
  refine m_J_getf hM rfl rfl (kZ hZ 0 rfl) (rfl) ?_
  refine m_J_run hM 2 rfl ⟨trivial, trivial, trivial⟩ ?_
  rw [show nI ls - nI 1 = nI (ls - 1) from pk_sub (by omega)]
  refine m_cS3 hM rfl kw_X9_82 (y_in) (Nat.le_of_ble_eq_true rfl) ?_
  rw [show k_im (nI k) (nI 0) (nI (ls - 1)) = true by rw [k_imN (by omega) (by omega) (by omega)]; simp; omega]
  refine m_J_run hM 1 rfl ⟨trivial, trivial⟩ ?_
  refine m_J_if (fun _ => ?_) (fun hc => absurd (by decide) hc)
  refine m_J_run hM 2 rfl ⟨trivial, trivial, trivial⟩ ?_
  refine m_cV2 hZ hM rfl kw_X9_99 rfl rfl rfl (y_tif hZ (b := false) (x := nI 1)) rfl (Nat.le_of_ble_eq_true rfl) ?_
  refine m_J_eqH (H' := (Z ++ k_M (nI 0) u so fz fs gt yr aK aO aT aH aW aS aL ls pl ps tp td pt en bg fa fv mt nx pL sg bo wa gv bw of o)) rfl ?_
  refine m_J_run hM 1 rfl ⟨trivial, trivial⟩ ?_
  refine m_J_if (fun hc => absurd hc (by decide)) (fun _ => ?_)
  refine m_J_run hM 3 rfl ⟨trivial, trivial, trivial, trivial⟩ ?_
  refine m_cV1 hZ hM rfl kw_X9_269 rfl rfl rfl (y_isLaw hZ (by omega)) rfl (Nat.le_of_ble_eq_true rfl) ?_
  rw [hl]
  refine m_J_run hM 1 rfl ⟨trivial, trivial⟩ ?_
  refine m_J_if (fun hc => absurd hc (by decide)) (fun _ => ?_)
  refine m_J_run hM 2 rfl ⟨trivial, trivial, trivial⟩ ?_
  refine m_cVp1 hZ hM rfl kw_X9_266 rfl rfl rfl (y_seeks hZ (x := -nI 1) hls hK hfs hf5 hu) (Nat.le_of_ble_eq_true rfl) (fun v9 h9 hp9 => ?_)
  obtain ⟨rfl, sg342, bo342, wa342, gv342, mt342, hg342, rfl⟩ := hp9
  refine ⟨k_le rfl, ?_⟩
  refine m_J_eqH (H' := (Z ++ k_M (nI 0) u so fz fs gt yr aK aO aT aH aW aS aL ls pl ps tp td pt en bg fa fv mt342 nx (y_pp fz pL 60) sg342 bo342 wa342 gv342 ((y_SK K aK aO aT aW aS aL so ls fz u pL fs (-nI 1) bw).2.1) of o)) rfl ?_
  rw [show (y_sk K aK aO aT aW aS aL so ls fz u (y_pp fz pL 60) fs (-nI 1) bw (4 ^ fs)).1 = false from hb]
  refine m_J_run hM 1 rfl ⟨trivial, trivial⟩ ?_
  refine m_J_if (fun hc => absurd hc (by decide)) (fun _ => ?_)
  refine m_J_run hM 3 rfl ⟨trivial, trivial, trivial, trivial⟩ ?_
  refine m_cV2 hZ hM rfl kw_X9_99 rfl rfl rfl (y_tif hZ (b := true) (x := nI 2)) rfl (Nat.le_of_ble_eq_true rfl) ?_
  refine m_J_eqH (H' := (Z ++ k_M (nI 2) u so fz fs gt yr aK aO aT aH aW aS aL ls pl ps tp td pt en bg fa fv mt342 nx (y_pp fz pL 60) sg342 bo342 wa342 gv342 ((y_SK K aK aO aT aW aS aL so ls fz u pL fs (-nI 1) bw).2.1) of o)) rfl ?_
  refine m_J_run hM 1 rfl ⟨trivial, trivial⟩ ?_
  refine m_J_if (fun hc => absurd hc (by decide)) (fun _ => ?_)
  refine m_J_run hM 1 rfl ⟨trivial, trivial⟩ ?_
  exact m_J_iret hM rfl rfl (rfl) (Nat.le_of_ble_eq_true rfl) (Nat.le_of_ble_eq_true rfl) (⟨rfl, rfl, _, _, _, _, _, _, _, rfl⟩)
set_option maxHeartbeats 2000000 in
theorem y_cost_l (hZ : Z.length = 70) (hls : ls ≤ 14) {k : Nat} (hk : k < ls) (hl : y_isl aK k = false) : m_Dt l (m_EX E N xs) E mM_X9_cost (d + 5) 0 0 [.ref 70, .int (nI k)] (Z ++ k_M th u so fz fs gt yr aK aO aT aH aW aS aL ls pl ps tp td pt en bg fa fv mt nx pL sg bo wa gv bw of o) tg (some (.int (nI 0))) (Z ++ k_M (nI 2) u so fz fs gt yr aK aO aT aH aW aS aL ls pl ps tp td pt en bg fa fv mt nx pL sg bo wa gv bw of o) tg := by
  have hM := mM_X9_cost_ok
  refine m_Sp_of (by decide) (Nat.le_of_ble_eq_true rfl) ?_
  refine m_J_run hM 2 rfl ⟨trivial, trivial, trivial⟩ ?_
  refine m_J_putf hM rfl rfl (kZ hZ 0 rfl) (rfl) ?_
  refine m_J_eqH (H' := (Z ++ k_M (nI 0) u so fz fs gt yr aK aO aT aH aW aS aL ls pl ps tp td pt en bg fa fv mt nx pL sg bo wa gv bw of o)) (kZs hZ 0 rfl) ?_
  refine m_J_run hM 4 rfl ⟨trivial, trivial, trivial, trivial, trivial⟩ ?_
  refine m_J_getf hM rfl rfl (kZ hZ 0 rfl) (rfl) ?_
  refine m_J_run hM 2 rfl ⟨trivial, trivial, trivial⟩ ?_
  rw [show nI ls - nI 1 = nI (ls - 1) from pk_sub (by omega)]
  refine m_cS3 hM rfl kw_X9_82 (y_in) (Nat.le_of_ble_eq_true rfl) ?_
  rw [show k_im (nI k) (nI 0) (nI (ls - 1)) = true by rw [k_imN (by omega) (by omega) (by omega)]; simp; omega]
  refine m_J_run hM 1 rfl ⟨trivial, trivial⟩ ?_
  refine m_J_if (fun _ => ?_) (fun hc => absurd (by decide) hc)
  refine m_J_run hM 2 rfl ⟨trivial, trivial, trivial⟩ ?_
  refine m_cV2 hZ hM rfl kw_X9_99 rfl rfl rfl (y_tif hZ (b := false) (x := nI 1)) rfl (Nat.le_of_ble_eq_true rfl) ?_
  refine m_J_eqH (H' := (Z ++ k_M (nI 0) u so fz fs gt yr aK aO aT aH aW aS aL ls pl ps tp td pt en bg fa fv mt nx pL sg bo wa gv bw of o)) rfl ?_
  refine m_J_run hM 1 rfl ⟨trivial, trivial⟩ ?_
  refine m_J_if (fun hc => absurd hc (by decide)) (fun _ => ?_)
  refine m_J_run hM 3 rfl ⟨trivial, trivial, trivial, trivial⟩ ?_
  refine m_cV1 hZ hM rfl kw_X9_269 rfl rfl rfl (y_isLaw hZ (by omega)) rfl (Nat.le_of_ble_eq_true rfl) ?_
  rw [hl]
  refine m_J_run hM 1 rfl ⟨trivial, trivial⟩ ?_
  refine m_J_if (fun _ => ?_) (fun hc => absurd (by decide) hc)
  refine m_J_run hM 3 rfl ⟨trivial, trivial, trivial, trivial⟩ ?_
  refine m_cV2 hZ hM rfl kw_X9_99 rfl rfl rfl (y_tif hZ (b := true) (x := nI 2)) rfl (Nat.le_of_ble_eq_true rfl) ?_
  refine m_J_eqH (H' := (Z ++ k_M (nI 2) u so fz fs gt yr aK aO aT aH aW aS aL ls pl ps tp td pt en bg fa fv mt nx pL sg bo wa gv bw of o)) rfl ?_
  refine m_J_run hM 1 rfl ⟨trivial, trivial⟩ ?_
  refine m_J_if (fun hc => absurd hc (by decide)) (fun _ => ?_)
  refine m_J_run hM 1 rfl ⟨trivial, trivial⟩ ?_
  exact m_iret hM rfl rfl (rfl) (Nat.le_of_ble_eq_true rfl) (Nat.le_of_ble_eq_true rfl) (rfl) (rfl)
set_option maxHeartbeats 2000000 in
theorem y_cost_i (hZ : Z.length = 70) {x : Int32} (hx : k_im x (nI 0) (nI ls - nI 1) = false) : m_Dt l (m_EX E N xs) E mM_X9_cost (d + 5) 0 0 [.ref 70, .int x] (Z ++ k_M th u so fz fs gt yr aK aO aT aH aW aS aL ls pl ps tp td pt en bg fa fv mt nx pL sg bo wa gv bw of o) tg (some (.int (nI 0))) (Z ++ k_M (nI 1) u so fz fs gt yr aK aO aT aH aW aS aL ls pl ps tp td pt en bg fa fv mt nx pL sg bo wa gv bw of o) tg := by
  have hM := mM_X9_cost_ok
  refine m_Sp_of (by decide) (Nat.le_of_ble_eq_true rfl) ?_
  refine m_J_run hM 2 rfl ⟨trivial, trivial, trivial⟩ ?_
  refine m_J_putf hM rfl rfl (kZ hZ 0 rfl) (rfl) ?_
  refine m_J_eqH (H' := (Z ++ k_M (nI 0) u so fz fs gt yr aK aO aT aH aW aS aL ls pl ps tp td pt en bg fa fv mt nx pL sg bo wa gv bw of o)) (kZs hZ 0 rfl) ?_
  refine m_J_run hM 4 rfl ⟨trivial, trivial, trivial, trivial, trivial⟩ ?_
  refine m_J_getf hM rfl rfl (kZ hZ 0 rfl) (rfl) ?_
  refine m_J_run hM 2 rfl ⟨trivial, trivial, trivial⟩ ?_
  refine m_cS3 hM rfl kw_X9_82 (y_in) (Nat.le_of_ble_eq_true rfl) ?_
  rw [hx]
  refine m_J_run hM 1 rfl ⟨trivial, trivial⟩ ?_
  refine m_J_if (fun hc => absurd hc (by decide)) (fun _ => ?_)
  refine m_J_run hM 3 rfl ⟨trivial, trivial, trivial, trivial⟩ ?_
  refine m_cV2 hZ hM rfl kw_X9_99 rfl rfl rfl (y_tif hZ (b := true) (x := nI 1)) rfl (Nat.le_of_ble_eq_true rfl) ?_
  refine m_J_eqH (H' := (Z ++ k_M (nI 1) u so fz fs gt yr aK aO aT aH aW aS aL ls pl ps tp td pt en bg fa fv mt nx pL sg bo wa gv bw of o)) rfl ?_
  refine m_J_run hM 1 rfl ⟨trivial, trivial⟩ ?_
  refine m_J_if (fun _ => ?_) (fun hc => absurd (by decide) hc)
  refine m_J_run hM 1 rfl ⟨trivial, trivial⟩ ?_
  exact m_iret hM rfl rfl (rfl) (Nat.le_of_ble_eq_true rfl) (Nat.le_of_ble_eq_true rfl) (rfl) (rfl)
end
