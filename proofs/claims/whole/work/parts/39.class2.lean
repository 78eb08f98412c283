/-! THE METHODS OF LandUses, going on (written by wip/gen_class2.py) -/
section
variable {l : Launch} {E : mE} {N : Nat} {xs : Nat → Int32} {d : Nat} {tg : Bool}
variable {fr : Int64} {gt : Nat} {pn : Nat} {yr : Nat} {wg : Int32} {se : Bool} {sw : Bool} {n : Nat} {g : Nat → Int32} {rp : Nat} {rq : Int32} {f : Nat → Int64} {so : Nat → Int32} {nx : Nat → Int64} {pl : Nat → Nat → Int64} {mL : Nat} {qL : Nat → kL} {mS : Nat} {qS : Nat → kL} {sb : Nat} {cnt : Nat} {fd : Bool} {bw : Int32} {F : Nat → Int64} {sqs : Nat → Nat} {bu : Nat → Int64} {wb : Nat → Int32} {o : mH}
set_option maxHeartbeats 2000000 in
theorem x_bs_y  : m_Dt l (m_EX E N xs) E mM_X8_bestSearch d 0 0 [.ref 0] (k_U fr gt pn yr wg (true) sw n g rp rq f so nx pl mL qL mS qS sb cnt fd bw F sqs bu wb o) tg (some (.ref 62)) (k_U fr gt pn yr wg (true) sw n g rp rq f so nx pl mL qL mS qS sb cnt fd bw F sqs bu wb o) tg := by
  have hM := mM_X8_bestSearch_ok
  refine m_Sp_of (by decide) (Nat.le_of_ble_eq_true rfl) ?_
  refine m_J_run hM 1 rfl ⟨trivial, trivial⟩ ?_
  refine m_J_getf hM rfl rfl (rfl) (rfl) ?_
  refine m_J_run hM 1 rfl ⟨trivial, trivial⟩ ?_
  refine m_J_if (fun _ => ?_) (fun hc => absurd (by decide) hc)
  refine m_J_run hM 1 rfl ⟨trivial, trivial⟩ ?_
  refine m_J_getf hM rfl rfl (rfl) (rfl) ?_
  exact m_aret hM rfl rfl (Or.inl ⟨_, rfl⟩) (Nat.le_of_ble_eq_true rfl) (Nat.le_of_ble_eq_true rfl) rfl
set_option maxHeartbeats 2000000 in
theorem x_bs_n (hm : mL ≤ 14) (hq : ∀ i, i < 14 → k_lok (qL i)) : m_Dt l (m_EX E N xs) E mM_X8_bestSearch (d + 11) 0 0 [.ref 0] (k_U fr gt pn yr wg (false) sw n g rp rq f so nx pl mL qL mS qS sb cnt fd bw F sqs bu wb o) tg (some (.ref 62)) (k_U fr gt pn yr wg (true) sw n g rp rq f so nx pl mL qL mS qS ((bif sw then 46 else 30)) (k_lc fr 60) ((k_run qL mL so f F fr sqs bu wb).2.1) ((k_run qL mL so f F fr sqs bu wb).2.2.1) ((k_run qL mL so f F fr sqs bu wb).1) (k_lq fr sqs 60) ((k_run qL mL so f F fr sqs bu wb).2.2.2.1) ((k_run qL mL so f F fr sqs bu wb).2.2.2.2) o) tg := by
  have hM := mM_X8_bestSearch_ok
  refine m_Sp_of (by decide) (Nat.le_of_ble_eq_true rfl) ?_
  refine m_J_run hM 1 rfl ⟨trivial, trivial⟩ ?_
  refine m_J_getf hM rfl rfl (rfl) (rfl) ?_
  refine m_J_run hM 1 rfl ⟨trivial, trivial⟩ ?_
  refine m_J_if (fun hc => absurd hc (by decide)) (fun _ => ?_)
  refine m_J_run hM 1 rfl ⟨trivial, trivial⟩ ?_
  refine m_J_getf hM rfl rfl (rfl) (rfl) ?_
  refine m_J_run hM 1 rfl ⟨trivial, trivial⟩ ?_
  refine m_J_getf hM rfl rfl (rfl) (rfl) ?_
  refine m_J_run hM 1 rfl ⟨trivial, trivial⟩ ?_
  refine m_J_getf hM rfl rfl (rfl) (rfl) ?_
  refine m_J_run hM 1 rfl ⟨trivial, trivial⟩ ?_
  refine m_J_getf hM rfl rfl (rfl) (rfl) ?_
  refine m_J_callV (as := [.ref 4, .ref (bif sw then 46 else 30), .long fr]) (rest := []) (m_EX_warm E N xs) hM rfl kw_X8_244 rfl rfl rfl rfl ⟨_, rfl, rfl⟩ (Nat.le_of_ble_eq_true rfl) (Nat.le_of_ble_eq_true rfl) (Nat.le_of_ble_eq_true rfl) (r_run rfl k_U_LT k_U_LD rfl rfl rfl rfl (k_U_BL hm hq) (by decide) (by decide) (by decide) (by decide) (by decide)) (fun v9 h9 tg9 hp9 => ?_) (fun nm h9 hp => hp.elim)
  obtain ⟨rfl, rfl, p1, p3⟩ := hp9
  refine ⟨fun ht => ⟨ht, by rw [p3.1]; exact Nat.le_refl _⟩, ?_⟩
  obtain ⟨a1, a2, a3, a4, a5, a6, -⟩ := p1
  have e9 : h9 = (k_U fr gt pn yr wg (false) sw n g rp rq f so nx pl mL qL mS qS ((bif sw then 46 else 30)) (k_lc fr 60) ((k_run qL mL so f F fr sqs bu wb).2.1) ((k_run qL mL so f F fr sqs bu wb).2.2.1) ((k_run qL mL so f F fr sqs bu wb).1) (k_lq fr sqs 60) ((k_run qL mL so f F fr sqs bu wb).2.2.2.1) ((k_run qL mL so f F fr sqs bu wb).2.2.2.2) o) := by
    have p4 := k_fr_set (k_fr_set (k_fr_set (k_fr_set (k_fr_set p3 a1) a2.2.2.1) a5) a6) a3
    rw [k_fr_nil p4]
    rfl
  subst e9
  clear a1 a2 a3 a4 a5 a6 p3
  refine m_J_run hM 2 rfl ⟨trivial, trivial, trivial⟩ ?_
  refine m_J_putf hM rfl rfl (rfl) (rfl) ?_
  refine m_J_run hM 1 rfl ⟨trivial, trivial⟩ ?_
  refine m_J_getf hM rfl rfl (rfl) (rfl) ?_
  exact m_aret hM rfl rfl (Or.inl ⟨_, rfl⟩) (Nat.le_of_ble_eq_true rfl) (Nat.le_of_ble_eq_true rfl) rfl
set_option maxHeartbeats 2000000 in
theorem x_can {h : mH} {fs : List Value} (h0 : h[0]? = some (.inr (7, fs))) (hlen : h.length = (k_U fr gt pn yr wg se sw n g rp rq f so nx pl mL qL mS qS sb cnt fd bw F sqs bu wb o).length) (hB : m_Dt l (m_EX E N xs) E mM_X8_bestSearch (d + 11) 0 0 [.ref 0] h tg (some (.ref 62)) (k_U fr gt pn yr wg se sw n g rp rq f so nx pl mL qL mS qS sb cnt fd bw F sqs bu wb o) tg) : m_Dt l (m_EX E N xs) E mM_X8_can (d + 12) 0 0 [.ref 0] h tg (some (.int (k_z fd))) (k_U fr gt pn yr wg se sw n g rp rq f so nx pl mL qL mS qS sb cnt fd bw F sqs bu wb o) tg := by
  have hM := mM_X8_can_ok
  refine m_Sp_of (by decide) (Nat.le_of_ble_eq_true rfl) ?_
  refine m_J_run hM 1 rfl ⟨trivial, trivial⟩ ?_
  refine m_callV (as := []) (rest := []) (m_EX_warm E N xs) hM rfl kw_X8_173 rfl rfl h0 ⟨_, rfl, rfl⟩ hB rfl (Nat.le_of_ble_eq_true rfl) (Nat.le_of_ble_eq_true rfl) (Nat.le_of_ble_eq_true rfl) (fun ht => ⟨ht, Nat.le_of_eq hlen⟩) ?_
  refine m_J_getf hM rfl rfl (rfl) (rfl) ?_
  exact m_iret hM rfl rfl (k_z_nar fd) (Nat.le_of_ble_eq_true rfl) (Nat.le_of_ble_eq_true rfl) (rfl) (rfl)
set_option maxHeartbeats 2000000 in
theorem x_best {h : mH} {fs : List Value} (h0 : h[0]? = some (.inr (7, fs))) (hlen : h.length = (k_U fr gt pn yr wg se sw n g rp rq f so nx pl mL qL mS qS sb cnt (true) bw F sqs bu wb o).length) (hB : m_Dt l (m_EX E N xs) E mM_X8_bestSearch (d + 11) 0 0 [.ref 0] h tg (some (.ref 62)) (k_U fr gt pn yr wg se sw n g rp rq f so nx pl mL qL mS qS sb cnt (true) bw F sqs bu wb o) tg) : m_Dt l (m_EX E N xs) E mM_X8_best (d + 12) 0 0 [.ref 0] h tg (some (.int bw)) (k_U fr gt pn yr wg se sw n g rp rq f so nx pl mL qL mS qS sb cnt (true) bw F sqs bu wb o) tg := by
  have hM := mM_X8_best_ok
  refine m_Sp_of (by decide) (Nat.le_of_ble_eq_true rfl) ?_
  refine m_J_run hM 1 rfl ⟨trivial, trivial⟩ ?_
  refine m_callV (as := []) (rest := []) (m_EX_warm E N xs) hM rfl kw_X8_173 rfl rfl h0 ⟨_, rfl, rfl⟩ hB rfl (Nat.le_of_ble_eq_true rfl) (Nat.le_of_ble_eq_true rfl) (Nat.le_of_ble_eq_true rfl) (fun ht => ⟨ht, Nat.le_of_eq hlen⟩) ?_
  refine m_J_run hM 2 rfl ⟨trivial, trivial, trivial⟩ ?_
  refine m_J_getf hM rfl rfl (rfl) (rfl) ?_
  refine m_J_run hM 1 rfl ⟨trivial, trivial⟩ ?_
  refine m_J_if (fun _ => ?_) (fun hc => absurd (by decide) hc)
  refine m_J_run hM 1 rfl ⟨trivial, trivial⟩ ?_
  refine m_J_getf hM rfl rfl (rfl) (rfl) ?_
  exact m_iret hM rfl rfl rfl (Nat.le_of_ble_eq_true rfl) (Nat.le_of_ble_eq_true rfl) (rfl) (rfl)
set_option maxHeartbeats 2000000 in
theorem x_best_x (hl : l.stackTraces = false) {h : mH} {fs : List Value} (h0 : h[0]? = some (.inr (7, fs))) (hlen : h.length = (k_U fr gt pn yr wg se sw n g rp rq f so nx pl mL qL mS qS sb cnt (false) bw F sqs bu wb o).length) (hB : m_Dt l (m_EX E N xs) E mM_X8_bestSearch (d + 11) 0 0 [.ref 0] h tg (some (.ref 62)) (k_U fr gt pn yr wg se sw n g rp rq f so nx pl mL qL mS qS sb cnt (false) bw F sqs bu wb o) tg) : m_Dx l (m_EX E N xs) E mM_X8_best (d + 12) 1 6 [.ref 0] h tg "java/util/NoSuchElementException" (k_U fr gt pn yr wg se sw n g rp rq f so nx pl mL qL mS qS sb cnt (false) bw F sqs bu wb o) := by
  have hM := mM_X8_best_ok
  refine m_Sp_of (by decide) (Nat.le_of_ble_eq_true rfl) ?_
  refine m_J_run hM 1 rfl ⟨trivial, trivial⟩ ?_
  refine m_callV (as := []) (rest := []) (m_EX_warm E N xs) hM rfl kw_X8_173 rfl rfl h0 ⟨_, rfl, rfl⟩ hB rfl (Nat.le_of_ble_eq_true rfl) (Nat.le_of_ble_eq_true rfl) (Nat.le_of_ble_eq_true rfl) (fun ht => ⟨ht, Nat.le_of_eq hlen⟩) ?_
  refine m_J_run hM 2 rfl ⟨trivial, trivial, trivial⟩ ?_
  refine m_J_getf hM rfl rfl (rfl) (rfl) ?_
  refine m_J_run hM 1 rfl ⟨trivial, trivial⟩ ?_
  refine m_J_if (fun hc => absurd hc (by decide)) (fun _ => ?_)
  exact m_J_throwN (si := 22) (rest := []) hl hM rfl rfl rfl rfl rfl rfl rfl rfl (Nat.le_of_ble_eq_true rfl) (Nat.le_of_ble_eq_true rfl) (Nat.le_of_ble_eq_true rfl) ⟨rfl, rfl⟩
set_option maxHeartbeats 2000000 in
theorem x_given {a : Nat} (ha : a < 60) {h : mH} {fs : List Value} (h0 : h[0]? = some (.inr (7, fs))) (hlen : h.length = (k_U fr gt pn yr wg se sw n g rp rq f so nx pl mL qL mS qS sb cnt (true) bw F sqs bu wb o).length) (hB : m_Dt l (m_EX E N xs) E mM_X8_bestSearch (d + 11) 0 0 [.ref 0] h tg (some (.ref 62)) (k_U fr gt pn yr wg se sw n g rp rq f so nx pl mL qL mS qS sb cnt (true) bw F sqs bu wb o) tg) : m_Dt l (m_EX E N xs) E mM_X8_given (d + 12) 0 0 [.ref 0, .int (nI a)] h tg (some (.int (k_uo bu a 5 0))) (k_U fr gt pn yr wg se sw n g rp rq f so nx pl mL qL mS qS sb cnt (true) bw F sqs bu wb o) tg := by
  have hM := mM_X8_given_ok
  refine m_Sp_of (by decide) (Nat.le_of_ble_eq_true rfl) ?_
  refine m_J_run hM 1 rfl ⟨trivial, trivial⟩ ?_
  refine m_callS (as := [.int (nI a)]) (rest := []) (m_EX_warm E N xs) hM rfl kw_X8_94 rfl (x_cs ha) rfl (Nat.le_of_ble_eq_true rfl) (Nat.le_of_ble_eq_true rfl) (Nat.le_of_ble_eq_true rfl) (fun ht => ⟨ht, Nat.le_refl _⟩) ?_
  refine m_J_run hM 1 rfl ⟨trivial, trivial⟩ ?_
  refine m_callV (as := []) (rest := []) (m_EX_warm E N xs) hM rfl kw_X8_173 rfl rfl h0 ⟨_, rfl, rfl⟩ hB rfl (Nat.le_of_ble_eq_true rfl) (Nat.le_of_ble_eq_true rfl) (Nat.le_of_ble_eq_true rfl) (fun ht => ⟨ht, Nat.le_of_eq hlen⟩) ?_
  refine m_J_run hM 2 rfl ⟨trivial, trivial, trivial⟩ ?_
  refine m_J_getf hM rfl rfl (rfl) (rfl) ?_
  refine m_J_run hM 1 rfl ⟨trivial, trivial⟩ ?_
  refine m_J_if (fun hc => absurd hc (by decide)) (fun _ => ?_)
  refine m_J_run hM 1 rfl ⟨trivial, trivial⟩ ?_
  refine m_J_getf hM rfl rfl (rfl) (rfl) ?_
  refine m_J_run hM 1 rfl ⟨trivial, trivial⟩ ?_
  refine m_callV (as := [.int (nI a)]) (rest := []) (m_EX_warm E N xs) hM rfl kw_X8_191 rfl rfl (rfl) ⟨_, rfl, rfl⟩ (u_useOf (b := 68) (f := bu) rfl rfl) rfl (Nat.le_of_ble_eq_true rfl) (Nat.le_of_ble_eq_true rfl) (Nat.le_of_ble_eq_true rfl) (fun ht => ⟨ht, by simp⟩) ?_
  refine m_J_run hM 1 rfl ⟨trivial, trivial⟩ ?_
  exact m_iret hM rfl rfl rfl (Nat.le_of_ble_eq_true rfl) (Nat.le_of_ble_eq_true rfl) (rfl) (rfl)
set_option maxHeartbeats 2000000 in
theorem x_given_n {a : Nat} (ha : a < 60) {h : mH} {fs : List Value} (h0 : h[0]? = some (.inr (7, fs))) (hlen : h.length = (k_U fr gt pn yr wg se sw n g rp rq f so nx pl mL qL mS qS sb cnt (false) bw F sqs bu wb o).length) (hB : m_Dt l (m_EX E N xs) E mM_X8_bestSearch (d + 11) 0 0 [.ref 0] h tg (some (.ref 62)) (k_U fr gt pn yr wg se sw n g rp rq f so nx pl mL qL mS qS sb cnt (false) bw F sqs bu wb o) tg) : m_Dt l (m_EX E N xs) E mM_X8_given (d + 12) 0 0 [.ref 0, .int (nI a)] h tg (some (.int (-nI 1))) (k_U fr gt pn yr wg se sw n g rp rq f so nx pl mL qL mS qS sb cnt (false) bw F sqs bu wb o) tg := by
  have hM := mM_X8_given_ok
  refine m_Sp_of (by decide) (Nat.le_of_ble_eq_true rfl) ?_
  refine m_J_run hM 1 rfl ⟨trivial, trivial⟩ ?_
  refine m_callS (as := [.int (nI a)]) (rest := []) (m_EX_warm E N xs) hM rfl kw_X8_94 rfl (x_cs ha) rfl (Nat.le_of_ble_eq_true rfl) (Nat.le_of_ble_eq_true rfl) (Nat.le_of_ble_eq_true rfl) (fun ht => ⟨ht, Nat.le_refl _⟩) ?_
  refine m_J_run hM 1 rfl ⟨trivial, trivial⟩ ?_
  refine m_callV (as := []) (rest := []) (m_EX_warm E N xs) hM rfl kw_X8_173 rfl rfl h0 ⟨_, rfl, rfl⟩ hB rfl (Nat.le_of_ble_eq_true rfl) (Nat.le_of_ble_eq_true rfl) (Nat.le_of_ble_eq_true rfl) (fun ht => ⟨ht, Nat.le_of_eq hlen⟩) ?_
  refine m_J_run hM 2 rfl ⟨trivial, trivial, trivial⟩ ?_
  refine m_J_getf hM rfl rfl (rfl) (rfl) ?_
  refine m_J_run hM 1 rfl ⟨trivial, trivial⟩ ?_
  refine m_J_if (fun _ => ?_) (fun hc => absurd (by decide) hc)
  refine m_J_run hM 1 rfl ⟨trivial, trivial⟩ ?_
  exact m_iret hM rfl rfl rfl (Nat.le_of_ble_eq_true rfl) (Nat.le_of_ble_eq_true rfl) (rfl) (rfl)
theorem x_given_x (hl : l.stackTraces = false) {x : Int32} (hx : x < 0 ∨ ¬ x < nI 60) {h : mH} : m_Dx l (m_EX E N xs) E mM_X8_given (d + 1) 1 6 [.ref 0, .int x] h tg "java/lang/IndexOutOfBoundsException" h := by
  have hM := mM_X8_given_ok
  refine m_Sp_of (by decide) (Nat.le_of_ble_eq_true rfl) ?_
  refine m_J_run hM 1 rfl ⟨trivial, trivial⟩ ?_
  exact m_callSx (as := [.int x]) (rest := []) (m_EX_warm E N xs) hM rfl kw_X8_94 rfl (x_cs_x hl hx) rfl (Nat.le_of_ble_eq_true rfl) (Nat.le_of_ble_eq_true rfl) (Nat.le_of_ble_eq_true rfl) rfl (⟨rfl, rfl⟩)
set_option maxHeartbeats 2000000 in
theorem x_take {h : mH} {fs : List Value} (h0 : h[0]? = some (.inr (7, fs))) (hlen : h.length = (k_U fr gt pn yr wg se sw n g rp rq f so nx pl mL qL mS qS sb cnt (true) bw F sqs bu wb o).length) (hB : m_Dt l (m_EX E N xs) E mM_X8_bestSearch (d + 11) 0 0 [.ref 0] h tg (some (.ref 62)) (k_U fr gt pn yr wg se sw n g rp rq f so nx pl mL qL mS qS sb cnt (true) bw F sqs bu wb o) tg) : m_Dt l (m_EX E N xs) E mM_X8_take (d + 12) 0 0 [.ref 0] h tg (some (.int (nI 1))) (k_U fr gt pn yr wg (false) sw n g rp rq (k_upto bu f 5) so nx pl mL qL mS qS sb cnt (true) bw F sqs bu wb o) tg := by
  have hM := mM_X8_take_ok
  refine m_Sp_of (by decide) (Nat.le_of_ble_eq_true rfl) ?_
  refine m_J_run hM 1 rfl ⟨trivial, trivial⟩ ?_
  refine m_callV (as := []) (rest := []) (m_EX_warm E N xs) hM rfl kw_X8_173 rfl rfl h0 ⟨_, rfl, rfl⟩ hB rfl (Nat.le_of_ble_eq_true rfl) (Nat.le_of_ble_eq_true rfl) (Nat.le_of_ble_eq_true rfl) (fun ht => ⟨ht, Nat.le_of_eq hlen⟩) ?_
  refine m_J_run hM 2 rfl ⟨trivial, trivial, trivial⟩ ?_
  refine m_J_getf hM rfl rfl (rfl) (rfl) ?_
  refine m_J_run hM 1 rfl ⟨trivial, trivial⟩ ?_
  refine m_J_if (fun _ => ?_) (fun hc => absurd (by decide) hc)
  refine m_J_run hM 1 rfl ⟨trivial, trivial⟩ ?_
  refine m_J_getf hM rfl rfl (rfl) (rfl) ?_
  refine m_J_getf hM rfl rfl (rfl) (rfl) ?_
  refine m_J_run hM 1 rfl ⟨trivial, trivial⟩ ?_
  refine m_J_getf hM rfl rfl (rfl) (rfl) ?_
  refine m_callV (as := [.ref 67]) (rest := []) (m_EX_warm E N xs) hM rfl kw_X8_169 rfl rfl (rfl) ⟨_, rfl, rfl⟩ (u_become (b := 6) (b' := 68) (f := f) (g := bu) rfl rfl rfl rfl (by decide)) rfl (Nat.le_of_ble_eq_true rfl) (Nat.le_of_ble_eq_true rfl) (Nat.le_of_ble_eq_true rfl) (fun ht => ⟨ht, by simp⟩) ?_
  refine m_J_run hM 2 rfl ⟨trivial, trivial, trivial⟩ ?_
  refine m_J_putf hM rfl rfl (rfl) (rfl) ?_
  refine m_J_run hM 1 rfl ⟨trivial, trivial⟩ ?_
  exact m_iret hM rfl rfl (by decide) (Nat.le_of_ble_eq_true rfl) (Nat.le_of_ble_eq_true rfl) (rfl) (rfl)
set_option maxHeartbeats 2000000 in
theorem x_take_n {h : mH} {fs : List Value} (h0 : h[0]? = some (.inr (7, fs))) (hlen : h.length = (k_U fr gt pn yr wg se sw n g rp rq f so nx pl mL qL mS qS sb cnt (false) bw F sqs bu wb o).length) (hB : m_Dt l (m_EX E N xs) E mM_X8_bestSearch (d + 11) 0 0 [.ref 0] h tg (some (.ref 62)) (k_U fr gt pn yr wg se sw n g rp rq f so nx pl mL qL mS qS sb cnt (false) bw F sqs bu wb o) tg) : m_Dt l (m_EX E N xs) E mM_X8_take (d + 12) 0 0 [.ref 0] h tg (some (.int (nI 0))) (k_U fr gt pn yr wg se sw n g rp rq f so nx pl mL qL mS qS sb cnt (false) bw F sqs bu wb o) tg := by
  have hM := mM_X8_take_ok
  refine m_Sp_of (by decide) (Nat.le_of_ble_eq_true rfl) ?_
  refine m_J_run hM 1 rfl ⟨trivial, trivial⟩ ?_
  refine m_callV (as := []) (rest := []) (m_EX_warm E N xs) hM rfl kw_X8_173 rfl rfl h0 ⟨_, rfl, rfl⟩ hB rfl (Nat.le_of_ble_eq_true rfl) (Nat.le_of_ble_eq_true rfl) (Nat.le_of_ble_eq_true rfl) (fun ht => ⟨ht, Nat.le_of_eq hlen⟩) ?_
  refine m_J_run hM 2 rfl ⟨trivial, trivial, trivial⟩ ?_
  refine m_J_getf hM rfl rfl (rfl) (rfl) ?_
  refine m_J_run hM 1 rfl ⟨trivial, trivial⟩ ?_
  refine m_J_if (fun hc => absurd hc (by decide)) (fun _ => ?_)
  refine m_J_run hM 1 rfl ⟨trivial, trivial⟩ ?_
  exact m_iret hM rfl rfl (by decide) (Nat.le_of_ble_eq_true rfl) (Nat.le_of_ble_eq_true rfl) (rfl) (rfl)
set_option maxHeartbeats 2000000 in
theorem x_cost {a : Nat} (ha : a < mL) (hm : mL ≤ 14) (hq : ∀ i, i < 14 → k_lok (qL i)) (hlaw : k_isl (qL a) = true) {se2 : Bool} {sb2 : Nat} {cnt2 : Nat} {bw2 : Int32} {F2 : Nat → Int64} {sqs2 : Nat → Nat} {bu2 : Nat → Int64} {wb2 : Nat → Int32} (hB : m_Dt l (m_EX E N xs) E mM_X8_bestSearch (d + 11) 0 0 [.ref 0] (k_U fr gt pn yr wg se sw n g rp rq f so nx pl mL qL mS qS sb cnt fd bw F sqs bu wb o) tg (some (.ref 62)) (k_U fr gt pn yr wg se2 sw n g rp rq f so nx pl mL qL mS qS sb2 cnt2 true bw2 F2 sqs2 bu2 wb2 o) tg) : m_Dt l (m_EX E N xs) E mM_X8_cost (d + 12) 0 0 [.ref 0, .int (nI a)] (k_U fr gt pn yr wg se sw n g rp rq f so nx pl mL qL mS qS sb cnt fd bw F sqs bu wb o) tg (some (.int ((if bw2 < wb2 a then wb2 a else bw2) - bw2))) (k_U fr gt pn yr wg se2 sw n g rp rq f so nx pl mL qL mS qS sb2 cnt2 true bw2 F2 sqs2 bu2 wb2 o) tg := by
  have hM := mM_X8_cost_ok
  refine m_Sp_of (by decide) (Nat.le_of_ble_eq_true rfl) ?_
  refine m_J_run hM 2 rfl ⟨trivial, trivial, trivial⟩ ?_
  refine m_callV (as := [.int (nI a)]) (rest := []) (m_EX_warm E N xs) hM rfl kw_X8_150 rfl rfl (rfl) ⟨_, rfl, rfl⟩ (x_checkLine ha (by omega)) rfl (Nat.le_of_ble_eq_true rfl) (Nat.le_of_ble_eq_true rfl) (Nat.le_of_ble_eq_true rfl) (fun ht => ⟨ht, by simp⟩) ?_
  refine m_J_run hM 1 rfl ⟨trivial, trivial⟩ ?_
  refine m_J_getf hM rfl rfl (rfl) (rfl) ?_
  refine m_J_getf hM rfl rfl (k_U_cnt.1) (rfl) ?_
  refine m_J_run hM 1 rfl ⟨trivial, trivial⟩ ?_
  refine m_aaldN hM rfl ((k_U_BL hm hq).2.1) rfl (if_pos (show a < 14 by omega)) (by omega) (by omega) ?_
  refine m_callV (as := []) (rest := []) (m_EX_warm E N xs) hM rfl kw_X8_195 rfl rfl ((k_U_BL hm hq).2.2.1 a (by omega)) ⟨_, rfl, rfl⟩ (i_isLaw (hq a (by omega)).1 ((k_U_BL hm hq).2.2.1 a (by omega))) rfl (Nat.le_of_ble_eq_true rfl) (Nat.le_of_ble_eq_true rfl) (Nat.le_of_ble_eq_true rfl) (fun ht => ⟨ht, by simp⟩) ?_
  rw [hlaw]
  refine m_J_run hM 1 rfl ⟨trivial, trivial⟩ ?_
  refine m_J_if (fun _ => ?_) (fun hc => absurd (by decide) hc)
  refine m_J_run hM 1 rfl ⟨trivial, trivial⟩ ?_
  refine m_callV (as := []) (rest := []) (m_EX_warm E N xs) hM rfl kw_X8_173 rfl rfl rfl ⟨_, rfl, rfl⟩ hB rfl (Nat.le_of_ble_eq_true rfl) (Nat.le_of_ble_eq_true rfl) (Nat.le_of_ble_eq_true rfl) (fun ht => ⟨ht, Nat.le_refl _⟩) ?_
  refine m_J_run hM 2 rfl ⟨trivial, trivial, trivial⟩ ?_
  refine m_J_getf hM rfl rfl (rfl) (rfl) ?_
  refine m_J_run hM 1 rfl ⟨trivial, trivial⟩ ?_
  refine m_J_if (fun _ => ?_) (fun hc => absurd (by decide) hc)
  refine m_J_run hM 1 rfl ⟨trivial, trivial⟩ ?_
  refine m_J_getf hM rfl rfl (rfl) (rfl) ?_
  refine m_J_run hM 1 rfl ⟨trivial, trivial⟩ ?_
  refine m_J_getf hM rfl rfl (rfl) (rfl) ?_
  refine m_J_run hM 1 rfl ⟨trivial, trivial⟩ ?_
  refine m_ialdN hM rfl (rfl) (by omega) (by omega) ?_
  refine m_max hM rfl kw_X8_204 (Nat.le_of_ble_eq_true rfl) (Nat.le_of_ble_eq_true rfl) (Nat.le_of_ble_eq_true rfl) ?_
  refine m_J_run hM 1 rfl ⟨trivial, trivial⟩ ?_
  refine m_J_getf hM rfl rfl (rfl) (rfl) ?_
  refine m_J_run hM 1 rfl ⟨trivial, trivial⟩ ?_
  exact m_iret hM rfl rfl rfl (Nat.le_of_ble_eq_true rfl) (Nat.le_of_ble_eq_true rfl) (rfl) (rfl)
set_option maxHeartbeats 2000000 in
theorem x_cost_x (hl : l.stackTraces = false) {a : Nat} (ha : a < mL) (hm : mL ≤ 14) (hq : ∀ i, i < 14 → k_lok (qL i)) (hlaw : k_isl (qL a) = true) {se2 : Bool} {sb2 : Nat} {cnt2 : Nat} {bw2 : Int32} {F2 : Nat → Int64} {sqs2 : Nat → Nat} {bu2 : Nat → Int64} {wb2 : Nat → Int32} (hB : m_Dt l (m_EX E N xs) E mM_X8_bestSearch (d + 11) 0 0 [.ref 0] (k_U fr gt pn yr wg se sw n g rp rq f so nx pl mL qL mS qS sb cnt fd bw F sqs bu wb o) tg (some (.ref 62)) (k_U fr gt pn yr wg se2 sw n g rp rq f so nx pl mL qL mS qS sb2 cnt2 false bw2 F2 sqs2 bu2 wb2 o) tg) : m_Dx l (m_EX E N xs) E mM_X8_cost (d + 12) 1 6 [.ref 0, .int (nI a)] (k_U fr gt pn yr wg se sw n g rp rq f so nx pl mL qL mS qS sb cnt fd bw F sqs bu wb o) tg "java/util/NoSuchElementException" (k_U fr gt pn yr wg se2 sw n g rp rq f so nx pl mL qL mS qS sb2 cnt2 false bw2 F2 sqs2 bu2 wb2 o) := by
  have hM := mM_X8_cost_ok
  refine m_Sp_of (by decide) (Nat.le_of_ble_eq_true rfl) ?_
  refine m_J_run hM 2 rfl ⟨trivial, trivial, trivial⟩ ?_
  refine m_callV (as := [.int (nI a)]) (rest := []) (m_EX_warm E N xs) hM rfl kw_X8_150 rfl rfl (rfl) ⟨_, rfl, rfl⟩ (x_checkLine ha (by omega)) rfl (Nat.le_of_ble_eq_true rfl) (Nat.le_of_ble_eq_true rfl) (Nat.le_of_ble_eq_true rfl) (fun ht => ⟨ht, by simp⟩) ?_
  refine m_J_run hM 1 rfl ⟨trivial, trivial⟩ ?_
  refine m_J_getf hM rfl rfl (rfl) (rfl) ?_
  refine m_J_getf hM rfl rfl (k_U_cnt.1) (rfl) ?_
  refine m_J_run hM 1 rfl ⟨trivial, trivial⟩ ?_
  refine m_aaldN hM rfl ((k_U_BL hm hq).2.1) rfl (if_pos (show a < 14 by omega)) (by omega) (by omega) ?_
  refine m_callV (as := []) (rest := []) (m_EX_warm E N xs) hM rfl kw_X8_195 rfl rfl ((k_U_BL hm hq).2.2.1 a (by omega)) ⟨_, rfl, rfl⟩ (i_isLaw (hq a (by omega)).1 ((k_U_BL hm hq).2.2.1 a (by omega))) rfl (Nat.le_of_ble_eq_true rfl) (Nat.le_of_ble_eq_true rfl) (Nat.le_of_ble_eq_true rfl) (fun ht => ⟨ht, by simp⟩) ?_
  rw [hlaw]
  refine m_J_run hM 1 rfl ⟨trivial, trivial⟩ ?_
  refine m_J_if (fun _ => ?_) (fun hc => absurd (by decide) hc)
  refine m_J_run hM 1 rfl ⟨trivial, trivial⟩ ?_
  refine m_callV (as := []) (rest := []) (m_EX_warm E N xs) hM rfl kw_X8_173 rfl rfl rfl ⟨_, rfl, rfl⟩ hB rfl (Nat.le_of_ble_eq_true rfl) (Nat.le_of_ble_eq_true rfl) (Nat.le_of_ble_eq_true rfl) (fun ht => ⟨ht, Nat.le_refl _⟩) ?_
  refine m_J_run hM 2 rfl ⟨trivial, trivial, trivial⟩ ?_
  refine m_J_getf hM rfl rfl (rfl) (rfl) ?_
  refine m_J_run hM 1 rfl ⟨trivial, trivial⟩ ?_
  refine m_J_if (fun hc => absurd hc (by decide)) (fun _ => ?_)
  exact m_J_throwN (si := 22) (rest := []) hl hM rfl rfl rfl rfl rfl rfl rfl rfl (Nat.le_of_ble_eq_true rfl) (Nat.le_of_ble_eq_true rfl) (Nat.le_of_ble_eq_true rfl) ⟨rfl, rfl⟩
theorem x_cost_l (hl : l.stackTraces = false) {a : Nat} (ha : a < mL) (hm : mL ≤ 14) (hq : ∀ i, i < 14 → k_lok (qL i)) (hlaw : k_isl (qL a) = false) : m_Dx l (m_EX E N xs) E mM_X8_cost (d + 1) 1 6 [.ref 0, .int (nI a)] (k_U fr gt pn yr wg se sw n g rp rq f so nx pl mL qL mS qS sb cnt fd bw F sqs bu wb o) tg "java/util/NoSuchElementException" (k_U fr gt pn yr wg se sw n g rp rq f so nx pl mL qL mS qS sb cnt fd bw F sqs bu wb o) := by
  have hM := mM_X8_cost_ok
  refine m_Sp_of (by decide) (Nat.le_of_ble_eq_true rfl) ?_
  refine m_J_run hM 2 rfl ⟨trivial, trivial, trivial⟩ ?_
  refine m_callV (as := [.int (nI a)]) (rest := []) (m_EX_warm E N xs) hM rfl kw_X8_150 rfl rfl (rfl) ⟨_, rfl, rfl⟩ (x_checkLine ha (by omega)) rfl (Nat.le_of_ble_eq_true rfl) (Nat.le_of_ble_eq_true rfl) (Nat.le_of_ble_eq_true rfl) (fun ht => ⟨ht, by simp⟩) ?_
  refine m_J_run hM 1 rfl ⟨trivial, trivial⟩ ?_
  refine m_J_getf hM rfl rfl (rfl) (rfl) ?_
  refine m_J_getf hM rfl rfl (k_U_cnt.1) (rfl) ?_
  refine m_J_run hM 1 rfl ⟨trivial, trivial⟩ ?_
  refine m_aaldN hM rfl ((k_U_BL hm hq).2.1) rfl (if_pos (show a < 14 by omega)) (by omega) (by omega) ?_
  refine m_callV (as := []) (rest := []) (m_EX_warm E N xs) hM rfl kw_X8_195 rfl rfl ((k_U_BL hm hq).2.2.1 a (by omega)) ⟨_, rfl, rfl⟩ (i_isLaw (hq a (by omega)).1 ((k_U_BL hm hq).2.2.1 a (by omega))) rfl (Nat.le_of_ble_eq_true rfl) (Nat.le_of_ble_eq_true rfl) (Nat.le_of_ble_eq_true rfl) (fun ht => ⟨ht, by simp⟩) ?_
  rw [hlaw]
  refine m_J_run hM 1 rfl ⟨trivial, trivial⟩ ?_
  refine m_J_if (fun hc => absurd hc (by decide)) (fun _ => ?_)
  exact m_J_throwN (si := 23) (rest := []) hl hM rfl rfl rfl rfl rfl rfl rfl rfl (Nat.le_of_ble_eq_true rfl) (Nat.le_of_ble_eq_true rfl) (Nat.le_of_ble_eq_true rfl) ⟨rfl, rfl⟩
set_option maxHeartbeats 2000000 in
theorem x_cost_i (hl : l.stackTraces = false) {x : Int32} (hx : x < 0 ∨ ¬ x < nI mL) : m_Dx l (m_EX E N xs) E mM_X8_cost (d + 1) 1 6 [.ref 0, .int x] (k_U fr gt pn yr wg se sw n g rp rq f so nx pl mL qL mS qS sb cnt fd bw F sqs bu wb o) tg "java/lang/IndexOutOfBoundsException" (k_U fr gt pn yr wg se sw n g rp rq f so nx pl mL qL mS qS sb cnt fd bw F sqs bu wb o) := by
  have hM := mM_X8_cost_ok
  refine m_Sp_of (by decide) (Nat.le_of_ble_eq_true rfl) ?_
  refine m_J_run hM 2 rfl ⟨trivial, trivial, trivial⟩ ?_
  exact m_callVx (as := [.int x]) (rest := []) (m_EX_warm E N xs) hM rfl kw_X8_150 rfl rfl (rfl) ⟨_, rfl, rfl⟩ (x_checkLine_x hl hx) rfl (Nat.le_of_ble_eq_true rfl) (Nat.le_of_ble_eq_true rfl) (Nat.le_of_ble_eq_true rfl) rfl (⟨rfl, rfl⟩)
set_option maxHeartbeats 2000000 in
theorem x_look_0 {a : Nat} (ha : a < 60) : m_Dt l (m_EX E N xs) E mM_X8_look (d + 3) 0 0 [.ref 0, .int (nI a), .int (nI 0)] (k_U fr gt pn yr wg se sw n g rp rq f so nx pl mL qL mS qS sb cnt fd bw F sqs bu wb o) tg (some (.int (k_uo f a 5 0))) (k_U fr gt pn yr wg se sw n g rp rq f so nx pl mL qL mS qS sb cnt fd bw F sqs bu wb o) tg := by
  have hM := mM_X8_look_ok
  refine m_Sp_of (by decide) (Nat.le_of_ble_eq_true rfl) ?_
  refine m_J_run hM 1 rfl ⟨trivial, trivial⟩ ?_
  refine m_callS (as := [.int (nI a)]) (rest := []) (m_EX_warm E N xs) hM rfl kw_X8_94 rfl (x_cs ha) rfl (Nat.le_of_ble_eq_true rfl) (Nat.le_of_ble_eq_true rfl) (Nat.le_of_ble_eq_true rfl) (fun ht => ⟨ht, Nat.le_refl _⟩) ?_
  refine m_J_run hM 1 rfl ⟨trivial, trivial⟩ ?_
  refine m_J_run hM 1 rfl ⟨by decide, trivial⟩ ?_
  refine m_J_run hM 1 rfl ⟨trivial, trivial⟩ ?_
  refine m_J_getf hM rfl rfl (rfl) (rfl) ?_
  refine m_J_getf hM rfl rfl (rfl) (rfl) ?_
  refine m_J_run hM 1 rfl ⟨trivial, trivial⟩ ?_
  refine m_callV (as := [.int (nI a)]) (rest := []) (m_EX_warm E N xs) hM rfl kw_X8_191 rfl rfl (rfl) ⟨_, rfl, rfl⟩ (u_useOf (b := 6) (f := f) rfl rfl) rfl (Nat.le_of_ble_eq_true rfl) (Nat.le_of_ble_eq_true rfl) (Nat.le_of_ble_eq_true rfl) (fun ht => ⟨ht, by simp⟩) ?_
  exact m_iret hM rfl rfl rfl (Nat.le_of_ble_eq_true rfl) (Nat.le_of_ble_eq_true rfl) (rfl) (rfl)
set_option maxHeartbeats 2000000 in
theorem x_look_1 {a : Nat} (ha : a < 60) : m_Dt l (m_EX E N xs) E mM_X8_look (d + 3) 0 0 [.ref 0, .int (nI a), .int (nI 1)] (k_U fr gt pn yr wg se sw n g rp rq f so nx pl mL qL mS qS sb cnt fd bw F sqs bu wb o) tg (some (.int (so a))) (k_U fr gt pn yr wg se sw n g rp rq f so nx pl mL qL mS qS sb cnt fd bw F sqs bu wb o) tg := by
  have hM := mM_X8_look_ok
  refine m_Sp_of (by decide) (Nat.le_of_ble_eq_true rfl) ?_
  refine m_J_run hM 1 rfl ⟨trivial, trivial⟩ ?_
  refine m_callS (as := [.int (nI a)]) (rest := []) (m_EX_warm E N xs) hM rfl kw_X8_94 rfl (x_cs ha) rfl (Nat.le_of_ble_eq_true rfl) (Nat.le_of_ble_eq_true rfl) (Nat.le_of_ble_eq_true rfl) (fun ht => ⟨ht, Nat.le_refl _⟩) ?_
  refine m_J_run hM 1 rfl ⟨trivial, trivial⟩ ?_
  refine m_J_run hM 1 rfl ⟨by decide, trivial⟩ ?_
  refine m_J_run hM 1 rfl ⟨trivial, trivial⟩ ?_
  refine m_J_getf hM rfl rfl (rfl) (rfl) ?_
  refine m_J_getf hM rfl rfl (rfl) (rfl) ?_
  refine m_J_run hM 1 rfl ⟨trivial, trivial⟩ ?_
  refine m_ialdN hM rfl (rfl) (by omega) (by omega) ?_
  exact m_iret hM rfl rfl rfl (Nat.le_of_ble_eq_true rfl) (Nat.le_of_ble_eq_true rfl) (rfl) (rfl)
set_option maxHeartbeats 2000000 in
theorem x_look_2 {a : Nat} (ha : a < 60) : m_Dt l (m_EX E N xs) E mM_X8_look (d + 3) 0 0 [.ref 0, .int (nI a), .int (nI 2)] (k_U fr gt pn yr wg se sw n g rp rq f so nx pl mL qL mS qS sb cnt fd bw F sqs bu wb o) tg (some (.int (k_z (k_has fr a)))) (k_U fr gt pn yr wg se sw n g rp rq f so nx pl mL qL mS qS sb cnt fd bw F sqs bu wb o) tg := by
  have hM := mM_X8_look_ok
  refine m_Sp_of (by decide) (Nat.le_of_ble_eq_true rfl) ?_
  refine m_J_run hM 1 rfl ⟨trivial, trivial⟩ ?_
  refine m_callS (as := [.int (nI a)]) (rest := []) (m_EX_warm E N xs) hM rfl kw_X8_94 rfl (x_cs ha) rfl (Nat.le_of_ble_eq_true rfl) (Nat.le_of_ble_eq_true rfl) (Nat.le_of_ble_eq_true rfl) (fun ht => ⟨ht, Nat.le_refl _⟩) ?_
  refine m_J_run hM 1 rfl ⟨trivial, trivial⟩ ?_
  refine m_J_run hM 1 rfl ⟨by decide, trivial⟩ ?_
  refine m_J_run hM 1 rfl ⟨trivial, trivial⟩ ?_
  refine m_J_getf hM rfl rfl (rfl) (rfl) ?_
  refine m_J_run hM 1 rfl ⟨trivial, trivial⟩ ?_
  refine m_callS (as := [.long fr, .int (nI a)]) (rest := []) (m_EX_warm E N xs) hM rfl kw_X8_123 rfl (s_has fr a) rfl (Nat.le_of_ble_eq_true rfl) (Nat.le_of_ble_eq_true rfl) (Nat.le_of_ble_eq_true rfl) (fun ht => ⟨ht, Nat.le_refl _⟩) ?_
  refine m_J_run hM 1 rfl ⟨trivial, trivial⟩ ?_
  cases hb : k_has fr a with
  | false =>
    refine m_J_if (fun _ => ?_) (fun hc => absurd (rfl) hc)
    refine m_J_run hM 1 rfl ⟨trivial, trivial⟩ ?_
    exact m_iret hM rfl rfl rfl (Nat.le_of_ble_eq_true rfl) (Nat.le_of_ble_eq_true rfl) (rfl) (rfl)
  | true =>
    refine m_J_if (fun hc => absurd hc (by decide)) (fun _ => ?_)
    refine m_J_run hM 2 rfl ⟨trivial, trivial, trivial⟩ ?_
    exact m_iret hM rfl rfl rfl (Nat.le_of_ble_eq_true rfl) (Nat.le_of_ble_eq_true rfl) (rfl) (rfl)
set_option maxHeartbeats 2000000 in
theorem x_look_3 {a : Nat} (ha : a < 60) : m_Dt l (m_EX E N xs) E mM_X8_look (d + 3) 0 0 [.ref 0, .int (nI a), .int (nI 3)] (k_U fr gt pn yr wg se sw n g rp rq f so nx pl mL qL mS qS sb cnt fd bw F sqs bu wb o) tg (some (.int (k_like f a 5))) (k_U fr gt pn yr wg se sw n g rp rq f so nx pl mL qL mS qS sb cnt fd bw F sqs bu wb o) tg := by
  have hM := mM_X8_look_ok
  refine m_Sp_of (by decide) (Nat.le_of_ble_eq_true rfl) ?_
  refine m_J_run hM 1 rfl ⟨trivial, trivial⟩ ?_
  refine m_callS (as := [.int (nI a)]) (rest := []) (m_EX_warm E N xs) hM rfl kw_X8_94 rfl (x_cs ha) rfl (Nat.le_of_ble_eq_true rfl) (Nat.le_of_ble_eq_true rfl) (Nat.le_of_ble_eq_true rfl) (fun ht => ⟨ht, Nat.le_refl _⟩) ?_
  refine m_J_run hM 1 rfl ⟨trivial, trivial⟩ ?_
  refine m_J_run hM 1 rfl ⟨by decide, trivial⟩ ?_
  refine m_J_run hM 1 rfl ⟨trivial, trivial⟩ ?_
  refine m_J_getf hM rfl rfl (rfl) (rfl) ?_
  refine m_J_getf hM rfl rfl (rfl) (rfl) ?_
  refine m_J_run hM 1 rfl ⟨trivial, trivial⟩ ?_
  refine m_callV (as := [.int (nI a)]) (rest := []) (m_EX_warm E N xs) hM rfl kw_X8_213 rfl rfl (rfl) ⟨_, rfl, rfl⟩ (u_like (b := 6) (f := f) rfl rfl) rfl (Nat.le_of_ble_eq_true rfl) (Nat.le_of_ble_eq_true rfl) (Nat.le_of_ble_eq_true rfl) (fun ht => ⟨ht, by simp⟩) ?_
  exact m_iret hM rfl rfl rfl (Nat.le_of_ble_eq_true rfl) (Nat.le_of_ble_eq_true rfl) (rfl) (rfl)
set_option maxHeartbeats 2000000 in
theorem x_look_i (hl : l.stackTraces = false) {x y : Int32} (hx : x < 0 ∨ ¬ x < nI 60) : m_Dx l (m_EX E N xs) E mM_X8_look (d + 1) 1 6 [.ref 0, .int x, .int y] (k_U fr gt pn yr wg se sw n g rp rq f so nx pl mL qL mS qS sb cnt fd bw F sqs bu wb o) tg "java/lang/IndexOutOfBoundsException" (k_U fr gt pn yr wg se sw n g rp rq f so nx pl mL qL mS qS sb cnt fd bw F sqs bu wb o) := by
  have hM := mM_X8_look_ok
  refine m_Sp_of (by decide) (Nat.le_of_ble_eq_true rfl) ?_
  refine m_J_run hM 1 rfl ⟨trivial, trivial⟩ ?_
  exact m_callSx (as := [.int x]) (rest := []) (m_EX_warm E N xs) hM rfl kw_X8_94 rfl (x_cs_x hl hx) rfl (Nat.le_of_ble_eq_true rfl) (Nat.le_of_ble_eq_true rfl) (Nat.le_of_ble_eq_true rfl) rfl (⟨rfl, rfl⟩)
set_option maxHeartbeats 2000000 in
theorem x_look_x (hl : l.stackTraces = false) {a : Nat} (ha : a < 60) {x : Int32} (hx : x.toInt < 0 ∨ 3 < x.toInt) : m_Dx l (m_EX E N xs) E mM_X8_look (d + 1) 1 6 [.ref 0, .int (nI a), .int x] (k_U fr gt pn yr wg se sw n g rp rq f so nx pl mL qL mS qS sb cnt fd bw F sqs bu wb o) tg "java/util/NoSuchElementException" (k_U fr gt pn yr wg se sw n g rp rq f so nx pl mL qL mS qS sb cnt fd bw F sqs bu wb o) := by
  have hM := mM_X8_look_ok
  refine m_Sp_of (by decide) (Nat.le_of_ble_eq_true rfl) ?_
  refine m_J_run hM 1 rfl ⟨trivial, trivial⟩ ?_
  refine m_callS (as := [.int (nI a)]) (rest := []) (m_EX_warm E N xs) hM rfl kw_X8_94 rfl (x_cs ha) rfl (Nat.le_of_ble_eq_true rfl) (Nat.le_of_ble_eq_true rfl) (Nat.le_of_ble_eq_true rfl) (fun ht => ⟨ht, Nat.le_refl _⟩) ?_
  have e : m_off 82 0 3 #[31, 43, 53, 70] x = 82 := if_pos hx
  refine m_J_run hM 1 rfl ⟨trivial, trivial⟩ ?_
  refine m_J_run hM 1 rfl ⟨⟨by rw [e]; decide, fun q => absurd hx q⟩, trivial⟩ ?_
  rw [e]
  exact m_J_throwN (si := 24) (rest := []) hl hM rfl rfl rfl rfl rfl rfl rfl rfl (Nat.le_of_ble_eq_true rfl) (Nat.le_of_ble_eq_true rfl) (Nat.le_of_ble_eq_true rfl) ⟨rfl, rfl⟩
set_option maxHeartbeats 2000000 in
theorem x_keep (hp : pn < 6) : m_Dt l (m_EX E N xs) E mM_X8_keep (d + 1) 0 0 [.ref 0] (k_U fr gt pn yr wg se sw n g rp rq f so nx pl mL qL mS qS sb cnt fd bw F sqs bu wb o) tg (some (.int (nI pn))) (k_U fr gt (pn + 1) yr wg se sw n g rp rq f so nx (fun i => if i = pn then k_upto f (pl pn) 5 else pl i) mL qL mS qS sb cnt fd bw F sqs bu wb o) tg := by
  have hM := mM_X8_keep_ok
  refine m_Sp_of (by decide) (Nat.le_of_ble_eq_true rfl) ?_
  refine m_J_run hM 1 rfl ⟨trivial, trivial⟩ ?_
  refine m_J_getf hM rfl rfl (rfl) (rfl) ?_
  refine m_J_run hM 2 rfl ⟨trivial, trivial, trivial⟩ ?_
  refine m_J_if (fun _ => ?_) (fun hc => absurd (nI_lt hp (by omega)) hc)
  refine m_J_run hM 1 rfl ⟨trivial, trivial⟩ ?_
  refine m_J_getf hM rfl rfl (rfl) (rfl) ?_
  refine m_J_run hM 1 rfl ⟨trivial, trivial⟩ ?_
  refine m_J_getf hM rfl rfl (rfl) (rfl) ?_
  refine m_aaldN hM rfl (rfl) rfl (if_pos hp) (by omega) (by omega) ?_
  refine m_J_run hM 1 rfl ⟨trivial, trivial⟩ ?_
  refine m_J_getf hM rfl rfl (rfl) (rfl) ?_
  refine m_J_getf hM rfl rfl (rfl) (rfl) ?_
  refine m_callV (as := [.ref 5]) (rest := []) (m_EX_warm E N xs) hM rfl kw_X8_169 rfl rfl ((k_U_pl hp).1) ⟨_, rfl, rfl⟩ (u_become (b := 19 + 2 * pn) (b' := 6) (f := pl pn) (g := f) (k_U_pl hp).1 (k_U_pl hp).2 rfl rfl (by omega)) rfl (Nat.le_of_ble_eq_true rfl) (Nat.le_of_ble_eq_true rfl) (Nat.le_of_ble_eq_true rfl) (fun ht => ⟨ht, by simp⟩) ?_
  refine m_J_eqH (H' := (k_U fr gt pn yr wg se sw n g rp rq f so nx (fun i => if i = pn then k_upto f (pl pn) 5 else pl i) mL qL mS qS sb cnt fd bw F sqs bu wb o)) ?_ ?_
  · match pn, hp with
    | 0, _ => rfl
    | 1, _ => rfl
    | 2, _ => rfl
    | 3, _ => rfl
    | 4, _ => rfl
    | 5, _ => rfl
    | i + 6, hp => exact absurd hp (by omega)
  refine m_J_run hM 2 rfl ⟨trivial, trivial, trivial⟩ ?_
  refine m_J_getf hM rfl rfl (rfl) (rfl) ?_
  refine m_J_run hM 2 rfl ⟨trivial, trivial, trivial⟩ ?_
  refine m_J_putf hM rfl rfl (rfl) (rfl) ?_
  refine m_J_run hM 1 rfl ⟨trivial, trivial⟩ ?_
  refine m_J_getf hM rfl rfl (rfl) (rfl) ?_
  refine m_J_run hM 2 rfl ⟨trivial, trivial, trivial⟩ ?_
  exact m_iret hM rfl rfl rfl (Nat.le_of_ble_eq_true rfl) (Nat.le_of_ble_eq_true rfl) (by rw [← k_succ pn]; show nI (pn + 1) - nI 1 = nI pn; rw [k_succ pn, Int32.add_sub_cancel]) (by rw [← k_succ pn]; rfl)
set_option maxHeartbeats 2000000 in
theorem x_keep_n (hp : ¬ pn < 6) (hp2 : pn ≤ 6) : m_Dt l (m_EX E N xs) E mM_X8_keep (d + 1) 0 0 [.ref 0] (k_U fr gt pn yr wg se sw n g rp rq f so nx pl mL qL mS qS sb cnt fd bw F sqs bu wb o) tg (some (.int (-nI 1))) (k_U fr gt pn yr wg se sw n g rp rq f so nx pl mL qL mS qS sb cnt fd bw F sqs bu wb o) tg := by
  have hM := mM_X8_keep_ok
  refine m_Sp_of (by decide) (Nat.le_of_ble_eq_true rfl) ?_
  refine m_J_run hM 1 rfl ⟨trivial, trivial⟩ ?_
  refine m_J_getf hM rfl rfl (rfl) (rfl) ?_
  refine m_J_run hM 2 rfl ⟨trivial, trivial, trivial⟩ ?_
  refine m_J_if (fun hc => absurd hc (nI_nlt (by omega) (by omega))) (fun _ => ?_)
  refine m_J_run hM 1 rfl ⟨trivial, trivial⟩ ?_
  exact m_iret hM rfl rfl rfl (Nat.le_of_ble_eq_true rfl) (Nat.le_of_ble_eq_true rfl) (rfl) (rfl)
set_option maxHeartbeats 2000000 in
theorem x_pol_l  : m_Dt l (m_EX E N xs) E mM_X8_planOrLand (d + 1) 0 0 [.ref 0, .int (-nI 1)] (k_U fr gt pn yr wg se sw n g rp rq f so nx pl mL qL mS qS sb cnt fd bw F sqs bu wb o) tg (some (.ref 5)) (k_U fr gt pn yr wg se sw n g rp rq f so nx pl mL qL mS qS sb cnt fd bw F sqs bu wb o) tg := by
  have hM := mM_X8_planOrLand_ok
  refine m_Sp_of (by decide) (Nat.le_of_ble_eq_true rfl) ?_
  refine m_J_run hM 3 rfl ⟨trivial, trivial, trivial, trivial⟩ ?_
  refine m_J_if (fun hc => absurd hc (fun q => q rfl)) (fun _ => ?_)
  refine m_J_run hM 1 rfl ⟨trivial, trivial⟩ ?_
  refine m_J_getf hM rfl rfl (rfl) (rfl) ?_
  refine m_J_getf hM rfl rfl (rfl) (rfl) ?_
  exact m_aret hM rfl rfl (Or.inl ⟨_, rfl⟩) (Nat.le_of_ble_eq_true rfl) (Nat.le_of_ble_eq_true rfl) rfl
set_option maxHeartbeats 2000000 in
theorem x_pol {a : Nat} (ha : a < pn) (hp : pn ≤ 6) : m_Dt l (m_EX E N xs) E mM_X8_planOrLand (d + 1) 0 0 [.ref 0, .int (nI a)] (k_U fr gt pn yr wg se sw n g rp rq f so nx pl mL qL mS qS sb cnt fd bw F sqs bu wb o) tg (some (.ref (18 + 2 * a))) (k_U fr gt pn yr wg se sw n g rp rq f so nx pl mL qL mS qS sb cnt fd bw F sqs bu wb o) tg := by
  have hM := mM_X8_planOrLand_ok
  refine m_Sp_of (by decide) (Nat.le_of_ble_eq_true rfl) ?_
  refine m_J_run hM 3 rfl ⟨trivial, trivial, trivial, trivial⟩ ?_
  refine m_J_if (fun _ => ?_) (fun hc => absurd (fun q => absurd (show nI a < 0 by rw [q]; decide) (nI_pos (by omega))) hc)
  refine m_J_run hM 2 rfl ⟨trivial, trivial, trivial⟩ ?_
  refine m_callV (as := [.int (nI a)]) (rest := []) (m_EX_warm E N xs) hM rfl kw_X8_226 rfl rfl (rfl) ⟨_, rfl, rfl⟩ (x_checkPlan ha (by omega)) rfl (Nat.le_of_ble_eq_true rfl) (Nat.le_of_ble_eq_true rfl) (Nat.le_of_ble_eq_true rfl) (fun ht => ⟨ht, by simp⟩) ?_
  refine m_J_run hM 1 rfl ⟨trivial, trivial⟩ ?_
  refine m_J_getf hM rfl rfl (rfl) (rfl) ?_
  refine m_J_run hM 1 rfl ⟨trivial, trivial⟩ ?_
  refine m_aaldN hM rfl (rfl) rfl (if_pos (show a < 6 by omega)) (by omega) (by omega) ?_
  exact m_aret hM rfl rfl (Or.inl ⟨_, rfl⟩) (Nat.le_of_ble_eq_true rfl) (Nat.le_of_ble_eq_true rfl) rfl
set_option maxHeartbeats 2000000 in
theorem x_pol_x (hl : l.stackTraces = false) {x : Int32} (h1 : x ≠ -nI 1) (hx : x < 0 ∨ ¬ x < nI pn) : m_Dx l (m_EX E N xs) E mM_X8_planOrLand (d + 1) 1 6 [.ref 0, .int x] (k_U fr gt pn yr wg se sw n g rp rq f so nx pl mL qL mS qS sb cnt fd bw F sqs bu wb o) tg "java/lang/IndexOutOfBoundsException" (k_U fr gt pn yr wg se sw n g rp rq f so nx pl mL qL mS qS sb cnt fd bw F sqs bu wb o) := by
  have hM := mM_X8_planOrLand_ok
  refine m_Sp_of (by decide) (Nat.le_of_ble_eq_true rfl) ?_
  refine m_J_run hM 3 rfl ⟨trivial, trivial, trivial, trivial⟩ ?_
  refine m_J_if (fun _ => ?_) (fun hc => absurd (h1) hc)
  refine m_J_run hM 2 rfl ⟨trivial, trivial, trivial⟩ ?_
  exact m_callVx (as := [.int x]) (rest := []) (m_EX_warm E N xs) hM rfl kw_X8_226 rfl rfl (rfl) ⟨_, rfl, rfl⟩ (x_checkPlan_x hl hx) rfl (Nat.le_of_ble_eq_true rfl) (Nat.le_of_ble_eq_true rfl) (Nat.le_of_ble_eq_true rfl) rfl (⟨rfl, rfl⟩)
def k_pn (f : Nat → Int64) (pl : Nat → Nat → Int64) (a : Option Nat) : Nat → Int64 := a.elim f pl
def k_pr (a : Option Nat) : Nat := a.elim 5 (fun i => 18 + 2 * i)
def k_pb (a : Option Nat) : Nat := a.elim 6 (fun i => 19 + 2 * i)
def k_px (a : Option Nat) : Int32 := a.elim (-nI 1) nI
theorem x_plan {a : Option Nat} (ha : ∀ i, a = some i → i < pn) (hp : pn ≤ 6) : m_Dt l (m_EX E N xs) E mM_X8_planOrLand (d + 1) 0 0 [.ref 0, .int (k_px a)] (k_U fr gt pn yr wg se sw n g rp rq f so nx pl mL qL mS qS sb cnt fd bw F sqs bu wb o) tg (some (.ref (k_pr a))) (k_U fr gt pn yr wg se sw n g rp rq f so nx pl mL qL mS qS sb cnt fd bw F sqs bu wb o) tg ∧ (k_U fr gt pn yr wg se sw n g rp rq f so nx pl mL qL mS qS sb cnt fd bw F sqs bu wb o)[k_pr a]? = some (k_uses (k_pb a)) ∧ (k_U fr gt pn yr wg se sw n g rp rq f so nx pl mL qL mS qS sb cnt fd bw F sqs bu wb o)[k_pb a]? = some (k_la 5 (k_pn f pl a)) := by
  cases a with
  | none => exact ⟨x_pol_l, rfl, rfl⟩
  | some i => exact ⟨x_pol (ha i rfl) hp, (k_U_pl (Nat.lt_of_lt_of_le (ha i rfl) hp)).1, (k_U_pl (Nat.lt_of_lt_of_le (ha i rfl) hp)).2⟩
set_option maxHeartbeats 2000000 in
theorem x_unlike {a b : Option Nat} (ha : ∀ i, a = some i → i < pn) (hb : ∀ i, b = some i → i < pn) (hp : pn ≤ 6) : m_Dt l (m_EX E N xs) E mM_X8_unlike (d + 2) 0 0 [.ref 0, .int (k_px a), .int (k_px b)] (k_U fr gt pn yr wg se sw n g rp rq f so nx pl mL qL mS qS sb cnt fd bw F sqs bu wb o) tg (some (.int (nI 60 - k_same (k_pn f pl a) (k_pn f pl b) 5))) (k_U fr gt pn yr wg se sw n g rp rq f so nx pl mL qL mS qS sb cnt fd bw F sqs bu wb o) tg := by
  have hM := mM_X8_unlike_ok
  refine m_Sp_of (by decide) (Nat.le_of_ble_eq_true rfl) ?_
  refine m_J_run hM 2 rfl ⟨trivial, trivial, trivial⟩ ?_
  refine m_callV (as := [.int (k_px a)]) (rest := []) (m_EX_warm E N xs) hM rfl kw_X8_218 rfl rfl (rfl) ⟨_, rfl, rfl⟩ ((x_plan ha hp).1) rfl (Nat.le_of_ble_eq_true rfl) (Nat.le_of_ble_eq_true rfl) (Nat.le_of_ble_eq_true rfl) (fun ht => ⟨ht, by simp⟩) ?_
  refine m_J_run hM 2 rfl ⟨trivial, trivial, trivial⟩ ?_
  refine m_callV (as := [.int (k_px b)]) (rest := [.ref (k_pr a)]) (m_EX_warm E N xs) hM rfl kw_X8_218 rfl rfl (rfl) ⟨_, rfl, rfl⟩ ((x_plan hb hp).1) rfl (Nat.le_of_ble_eq_true rfl) (Nat.le_of_ble_eq_true rfl) (Nat.le_of_ble_eq_true rfl) (fun ht => ⟨ht, by simp⟩) ?_
  have qa := (x_plan (d := d) (l := l) (E := E) (N := N) (xs := xs) (tg := tg) (o := o) (fr := fr) (gt := gt) (pn := pn) (yr := yr) (wg := wg) (se := se) (sw := sw) (n := n) (g := g) (rp := rp) (rq := rq) (f := f) (so := so) (nx := nx) (pl := pl) (mL := mL) (qL := qL) (mS := mS) (qS := qS) (sb := sb) (cnt := cnt) (fd := fd) (bw := bw) (F := F) (sqs := sqs) (bu := bu) (wb := wb) ha hp).2
  have qb := (x_plan (d := d) (l := l) (E := E) (N := N) (xs := xs) (tg := tg) (o := o) (fr := fr) (gt := gt) (pn := pn) (yr := yr) (wg := wg) (se := se) (sw := sw) (n := n) (g := g) (rp := rp) (rq := rq) (f := f) (so := so) (nx := nx) (pl := pl) (mL := mL) (qL := qL) (mS := mS) (qS := qS) (sb := sb) (cnt := cnt) (fd := fd) (bw := bw) (F := F) (sqs := sqs) (bu := bu) (wb := wb) hb hp).2
  refine m_callV (as := [.ref (k_pr b)]) (rest := []) (m_EX_warm E N xs) hM rfl kw_X8_222 rfl rfl (qa.1) ⟨_, rfl, rfl⟩ (u_diff qa.1 qa.2 qb.1 qb.2) rfl (Nat.le_of_ble_eq_true rfl) (Nat.le_of_ble_eq_true rfl) (Nat.le_of_ble_eq_true rfl) (fun ht => ⟨ht, by simp⟩) ?_
  exact m_iret hM rfl rfl rfl (Nat.le_of_ble_eq_true rfl) (Nat.le_of_ble_eq_true rfl) (rfl) (rfl)
set_option maxHeartbeats 2000000 in
theorem x_unlike_1 (hl : l.stackTraces = false) {x y : Int32} (h1 : x ≠ -nI 1) (hx : x < 0 ∨ ¬ x < nI pn) : m_Dx l (m_EX E N xs) E mM_X8_unlike (d + 2) 1 6 [.ref 0, .int x, .int y] (k_U fr gt pn yr wg se sw n g rp rq f so nx pl mL qL mS qS sb cnt fd bw F sqs bu wb o) tg "java/lang/IndexOutOfBoundsException" (k_U fr gt pn yr wg se sw n g rp rq f so nx pl mL qL mS qS sb cnt fd bw F sqs bu wb o) := by
  have hM := mM_X8_unlike_ok
  refine m_Sp_of (by decide) (Nat.le_of_ble_eq_true rfl) ?_
  refine m_J_run hM 2 rfl ⟨trivial, trivial, trivial⟩ ?_
  exact m_callVx (as := [.int x]) (rest := []) (m_EX_warm E N xs) hM rfl kw_X8_218 rfl rfl (rfl) ⟨_, rfl, rfl⟩ (x_pol_x hl h1 hx) rfl (Nat.le_of_ble_eq_true rfl) (Nat.le_of_ble_eq_true rfl) (Nat.le_of_ble_eq_true rfl) rfl (⟨rfl, rfl⟩)
set_option maxHeartbeats 2000000 in
theorem x_unlike_2 (hl : l.stackTraces = false) {a : Option Nat} {x : Int32} (ha : ∀ i, a = some i → i < pn) (hp : pn ≤ 6) (h1 : x ≠ -nI 1) (hx : x < 0 ∨ ¬ x < nI pn) : m_Dx l (m_EX E N xs) E mM_X8_unlike (d + 2) 1 6 [.ref 0, .int (k_px a), .int x] (k_U fr gt pn yr wg se sw n g rp rq f so nx pl mL qL mS qS sb cnt fd bw F sqs bu wb o) tg "java/lang/IndexOutOfBoundsException" (k_U fr gt pn yr wg se sw n g rp rq f so nx pl mL qL mS qS sb cnt fd bw F sqs bu wb o) := by
  have hM := mM_X8_unlike_ok
  refine m_Sp_of (by decide) (Nat.le_of_ble_eq_true rfl) ?_
  refine m_J_run hM 2 rfl ⟨trivial, trivial, trivial⟩ ?_
  refine m_callV (as := [.int (k_px a)]) (rest := []) (m_EX_warm E N xs) hM rfl kw_X8_218 rfl rfl (rfl) ⟨_, rfl, rfl⟩ ((x_plan ha hp).1) rfl (Nat.le_of_ble_eq_true rfl) (Nat.le_of_ble_eq_true rfl) (Nat.le_of_ble_eq_true rfl) (fun ht => ⟨ht, by simp⟩) ?_
  refine m_J_run hM 2 rfl ⟨trivial, trivial, trivial⟩ ?_
  exact m_callVx (as := [.int x]) (rest := [.ref (k_pr a)]) (m_EX_warm E N xs) hM rfl kw_X8_218 rfl rfl (rfl) ⟨_, rfl, rfl⟩ (x_pol_x hl h1 hx) rfl (Nat.le_of_ble_eq_true rfl) (Nat.le_of_ble_eq_true rfl) (Nat.le_of_ble_eq_true rfl) rfl (⟨rfl, rfl⟩)
set_option maxHeartbeats 2000000 in
theorem x_back {a : Nat} (ha : a < pn) (hp : pn ≤ 6) : m_Dt l (m_EX E N xs) E mM_X8_back (d + 2) 0 0 [.ref 0, .int (nI a)] (k_U fr gt pn yr wg se sw n g rp rq f so nx pl mL qL mS qS sb cnt fd bw F sqs bu wb o) tg (some (.int (nI 60 - k_same f (pl a) 5))) (k_U fr gt pn yr wg (false) sw n g rp rq (k_upto (pl a) f 5) so nx pl mL qL mS qS sb cnt fd bw F sqs bu wb o) tg := by
  have hM := mM_X8_back_ok
  refine m_Sp_of (by decide) (Nat.le_of_ble_eq_true rfl) ?_
  have q := k_U_pl (fr := fr) (gt := gt) (pn := pn) (yr := yr) (wg := wg) (se := se) (sw := sw) (n := n) (g := g) (rp := rp) (rq := rq) (f := f) (so := so) (nx := nx) (pl := pl) (mL := mL) (qL := qL) (mS := mS) (qS := qS) (sb := sb) (cnt := cnt) (fd := fd) (bw := bw) (F := F) (sqs := sqs) (bu := bu) (wb := wb) (o := o) (show a < 6 by omega)
  refine m_J_run hM 2 rfl ⟨trivial, trivial, trivial⟩ ?_
  refine m_callV (as := [.int (nI a)]) (rest := []) (m_EX_warm E N xs) hM rfl kw_X8_226 rfl rfl (rfl) ⟨_, rfl, rfl⟩ (x_checkPlan ha (by omega)) rfl (Nat.le_of_ble_eq_true rfl) (Nat.le_of_ble_eq_true rfl) (Nat.le_of_ble_eq_true rfl) (fun ht => ⟨ht, by simp⟩) ?_
  refine m_J_run hM 1 rfl ⟨trivial, trivial⟩ ?_
  refine m_J_getf hM rfl rfl (rfl) (rfl) ?_
  refine m_J_getf hM rfl rfl (rfl) (rfl) ?_
  refine m_J_run hM 1 rfl ⟨trivial, trivial⟩ ?_
  refine m_J_getf hM rfl rfl (rfl) (rfl) ?_
  refine m_J_run hM 1 rfl ⟨trivial, trivial⟩ ?_
  refine m_aaldN hM rfl (rfl) rfl (if_pos (show a < 6 by omega)) (by omega) (by omega) ?_
  refine m_callV (as := [.ref (18 + 2 * a)]) (rest := []) (m_EX_warm E N xs) hM rfl kw_X8_222 rfl rfl (rfl) ⟨_, rfl, rfl⟩ (u_diff (b := 6) rfl rfl q.1 q.2) rfl (Nat.le_of_ble_eq_true rfl) (Nat.le_of_ble_eq_true rfl) (Nat.le_of_ble_eq_true rfl) (fun ht => ⟨ht, by simp⟩) ?_
  refine m_J_run hM 2 rfl ⟨trivial, trivial, trivial⟩ ?_
  refine m_J_getf hM rfl rfl (rfl) (rfl) ?_
  refine m_J_getf hM rfl rfl (rfl) (rfl) ?_
  refine m_J_run hM 1 rfl ⟨trivial, trivial⟩ ?_
  refine m_J_getf hM rfl rfl (rfl) (rfl) ?_
  refine m_J_run hM 1 rfl ⟨trivial, trivial⟩ ?_
  refine m_aaldN hM rfl (rfl) rfl (if_pos (show a < 6 by omega)) (by omega) (by omega) ?_
  refine m_callV (as := [.ref (18 + 2 * a)]) (rest := []) (m_EX_warm E N xs) hM rfl kw_X8_169 rfl rfl (rfl) ⟨_, rfl, rfl⟩ (u_become (b := 6) rfl rfl q.1 q.2 (by omega)) rfl (Nat.le_of_ble_eq_true rfl) (Nat.le_of_ble_eq_true rfl) (Nat.le_of_ble_eq_true rfl) (fun ht => ⟨ht, by simp⟩) ?_
  refine m_J_run hM 2 rfl ⟨trivial, trivial, trivial⟩ ?_
  refine m_J_putf hM rfl rfl (rfl) (rfl) ?_
  refine m_J_run hM 1 rfl ⟨trivial, trivial⟩ ?_
  exact m_iret hM rfl rfl rfl (Nat.le_of_ble_eq_true rfl) (Nat.le_of_ble_eq_true rfl) (rfl) (rfl)
set_option maxHeartbeats 2000000 in
theorem x_back_x (hl : l.stackTraces = false) {x : Int32} (hx : x < 0 ∨ ¬ x < nI pn) : m_Dx l (m_EX E N xs) E mM_X8_back (d + 1) 1 6 [.ref 0, .int x] (k_U fr gt pn yr wg se sw n g rp rq f so nx pl mL qL mS qS sb cnt fd bw F sqs bu wb o) tg "java/lang/IndexOutOfBoundsException" (k_U fr gt pn yr wg se sw n g rp rq f so nx pl mL qL mS qS sb cnt fd bw F sqs bu wb o) := by
  have hM := mM_X8_back_ok
  refine m_Sp_of (by decide) (Nat.le_of_ble_eq_true rfl) ?_
  refine m_J_run hM 2 rfl ⟨trivial, trivial, trivial⟩ ?_
  exact m_callVx (as := [.int x]) (rest := []) (m_EX_warm E N xs) hM rfl kw_X8_226 rfl rfl (rfl) ⟨_, rfl, rfl⟩ (x_checkPlan_x hl hx) rfl (Nat.le_of_ble_eq_true rfl) (Nat.le_of_ble_eq_true rfl) (Nat.le_of_ble_eq_true rfl) rfl (⟨rfl, rfl⟩)
set_option maxHeartbeats 2000000 in
theorem x_far  : m_Dt l (m_EX E N xs) E mM_X8_far (d + 2) 0 0 [.ref 0] (k_U fr gt pn yr wg se sw n g rp rq f so nx pl mL qL mS qS sb cnt fd bw F sqs bu wb o) tg (some (.int (k_st (f 1) (k_only gt) (1152921504606846975 &&& (f 4 ^^^ (-1))) 60 0))) (k_U fr gt pn yr wg se sw n g rp rq f so nx pl mL qL mS qS sb cnt fd bw F sqs bu wb o) tg := by
  have hM := mM_X8_far_ok
  refine m_Sp_of (by decide) (Nat.le_of_ble_eq_true rfl) ?_
  refine m_J_run hM 1 rfl ⟨trivial, trivial⟩ ?_
  refine m_J_getf hM rfl rfl (rfl) (rfl) ?_
  refine m_J_getf hM rfl rfl (rfl) (rfl) ?_
  refine m_J_run hM 1 rfl ⟨trivial, trivial⟩ ?_
  refine m_callV (as := [.int (nI 1)]) (rest := []) (m_EX_warm E N xs) hM rfl kw_X8_229 rfl rfl (rfl) ⟨_, rfl, rfl⟩ (u_of (u := 1) (b := 6) (f := f) (by decide) rfl rfl) rfl (Nat.le_of_ble_eq_true rfl) (Nat.le_of_ble_eq_true rfl) (Nat.le_of_ble_eq_true rfl) (fun ht => ⟨ht, by simp⟩) ?_
  refine m_J_run hM 3 rfl ⟨trivial, trivial, trivial, trivial⟩ ?_
  refine m_J_getf hM rfl rfl (rfl) (rfl) ?_
  refine m_J_getf hM rfl rfl (rfl) (rfl) ?_
  refine m_J_run hM 1 rfl ⟨trivial, trivial⟩ ?_
  refine m_callV (as := [.int (nI 4)]) (rest := [.long 1152921504606846975]) (m_EX_warm E N xs) hM rfl kw_X8_229 rfl rfl (rfl) ⟨_, rfl, rfl⟩ (u_of (u := 4) (b := 6) (f := f) (by decide) rfl rfl) rfl (Nat.le_of_ble_eq_true rfl) (Nat.le_of_ble_eq_true rfl) (Nat.le_of_ble_eq_true rfl) (fun ht => ⟨ht, by simp⟩) ?_
  refine m_J_run hM 6 rfl ⟨trivial, trivial, trivial, trivial, trivial, trivial, trivial⟩ ?_
  refine m_J_getf hM rfl rfl (rfl) (rfl) ?_
  refine m_J_run hM 1 rfl ⟨trivial, trivial⟩ ?_
  refine m_callS (as := [.long (f 1), .int (nI gt), .long (1152921504606846975 &&& (f 4 ^^^ (-1)))]) (rest := []) (m_EX_warm E N xs) hM rfl kw_X8_236 rfl (s_steps (f 1) _ gt) rfl (Nat.le_of_ble_eq_true rfl) (Nat.le_of_ble_eq_true rfl) (Nat.le_of_ble_eq_true rfl) (fun ht => ⟨ht, Nat.le_refl _⟩) ?_
  exact m_iret hM rfl rfl rfl (Nat.le_of_ble_eq_true rfl) (Nat.le_of_ble_eq_true rfl) (rfl) (rfl)
set_option maxHeartbeats 2000000 in
theorem x_count_u {a : Nat} (ha : a < 5) : m_Dt l (m_EX E N xs) E mM_X8_count (d + 1) 0 0 [.ref 0, .int (nI a)] (k_U fr gt pn yr wg se sw n g rp rq f so nx pl mL qL mS qS sb cnt fd bw F sqs bu wb o) tg (some (.int (k_pc (f a)))) (k_U fr gt pn yr wg se sw n g rp rq f so nx pl mL qL mS qS sb cnt fd bw F sqs bu wb o) tg := by
  have hM := mM_X8_count_ok
  refine m_Sp_of (by decide) (Nat.le_of_ble_eq_true rfl) ?_
  refine m_J_run hM 2 rfl ⟨trivial, trivial, trivial⟩ ?_
  refine m_J_if (fun hc => absurd hc (nI_pos (by omega))) (fun _ => ?_)
  refine m_J_run hM 3 rfl ⟨trivial, trivial, trivial, trivial⟩ ?_
  refine m_J_if (fun hc => absurd hc (nI_ge ha (by omega))) (fun _ => ?_)
  refine m_J_run hM 1 rfl ⟨trivial, trivial⟩ ?_
  refine m_J_getf hM rfl rfl (rfl) (rfl) ?_
  refine m_J_getf hM rfl rfl (rfl) (rfl) ?_
  refine m_J_run hM 1 rfl ⟨trivial, trivial⟩ ?_
  refine m_callV (as := [.int (nI a)]) (rest := []) (m_EX_warm E N xs) hM rfl kw_X8_229 rfl rfl (rfl) ⟨_, rfl, rfl⟩ (u_of (b := 6) (f := f) ha rfl rfl) rfl (Nat.le_of_ble_eq_true rfl) (Nat.le_of_ble_eq_true rfl) (Nat.le_of_ble_eq_true rfl) (fun ht => ⟨ht, by simp⟩) ?_
  refine m_callS (as := [.long (f a)]) (rest := []) (m_EX_warm E N xs) hM rfl kw_X8_127 rfl (s_pc (f a)) rfl (Nat.le_of_ble_eq_true rfl) (Nat.le_of_ble_eq_true rfl) (Nat.le_of_ble_eq_true rfl) (fun ht => ⟨ht, Nat.le_refl _⟩) ?_
  exact m_iret hM rfl rfl rfl (Nat.le_of_ble_eq_true rfl) (Nat.le_of_ble_eq_true rfl) (rfl) (rfl)
set_option maxHeartbeats 2000000 in
theorem x_count_5  : m_Dt l (m_EX E N xs) E mM_X8_count (d + 2) 0 0 [.ref 0, .int (nI 5)] (k_U fr gt pn yr wg se sw n g rp rq f so nx pl mL qL mS qS sb cnt fd bw F sqs bu wb o) tg (some (.int (k_pc fr))) (k_U fr gt pn yr wg se sw n g rp rq f so nx pl mL qL mS qS sb cnt fd bw F sqs bu wb o) tg := by
  have hM := mM_X8_count_ok
  refine m_Sp_of (by decide) (Nat.le_of_ble_eq_true rfl) ?_
  refine m_J_run hM 2 rfl ⟨trivial, trivial, trivial⟩ ?_
  refine m_J_if (fun hc => absurd hc (by decide)) (fun _ => ?_)
  refine m_J_run hM 3 rfl ⟨trivial, trivial, trivial, trivial⟩ ?_
  refine m_J_if (fun _ => ?_) (fun hc => absurd (by decide) hc)
  refine m_J_run hM 1 rfl ⟨trivial, trivial⟩ ?_
  refine m_J_run hM 1 rfl ⟨by decide, trivial⟩ ?_
  refine m_J_run hM 1 rfl ⟨trivial, trivial⟩ ?_
  refine m_J_getf hM rfl rfl (rfl) (rfl) ?_
  refine m_callS (as := [.long fr]) (rest := []) (m_EX_warm E N xs) hM rfl kw_X8_127 rfl (s_pc fr) rfl (Nat.le_of_ble_eq_true rfl) (Nat.le_of_ble_eq_true rfl) (Nat.le_of_ble_eq_true rfl) (fun ht => ⟨ht, Nat.le_refl _⟩) ?_
  exact m_iret hM rfl rfl rfl (Nat.le_of_ble_eq_true rfl) (Nat.le_of_ble_eq_true rfl) (rfl) (rfl)
set_option maxHeartbeats 2000000 in
theorem x_count_6  : m_Dt l (m_EX E N xs) E mM_X8_count (d + 2) 0 0 [.ref 0, .int (nI 6)] (k_U fr gt pn yr wg se sw n g rp rq f so nx pl mL qL mS qS sb cnt fd bw F sqs bu wb o) tg (some (.int (nI mL))) (k_U fr gt pn yr wg se sw n g rp rq f so nx pl mL qL mS qS sb cnt fd bw F sqs bu wb o) tg := by
  have hM := mM_X8_count_ok
  refine m_Sp_of (by decide) (Nat.le_of_ble_eq_true rfl) ?_
  refine m_J_run hM 2 rfl ⟨trivial, trivial, trivial⟩ ?_
  refine m_J_if (fun hc => absurd hc (by decide)) (fun _ => ?_)
  refine m_J_run hM 3 rfl ⟨trivial, trivial, trivial, trivial⟩ ?_
  refine m_J_if (fun _ => ?_) (fun hc => absurd (by decide) hc)
  refine m_J_run hM 1 rfl ⟨trivial, trivial⟩ ?_
  refine m_J_run hM 1 rfl ⟨by decide, trivial⟩ ?_
  refine m_J_run hM 1 rfl ⟨trivial, trivial⟩ ?_
  refine m_J_getf hM rfl rfl (rfl) (rfl) ?_
  refine m_J_getf hM rfl rfl (k_U_cnt.1) (rfl) ?_
  exact m_iret hM rfl rfl rfl (Nat.le_of_ble_eq_true rfl) (Nat.le_of_ble_eq_true rfl) (rfl) (rfl)
set_option maxHeartbeats 2000000 in
theorem x_count_7 (hm : mL ≤ 14) (hq : ∀ i, i < 14 → k_lok (qL i)) : m_Dt l (m_EX E N xs) E mM_X8_count (d + 2) 0 0 [.ref 0, .int (nI 7)] (k_U fr gt pn yr wg se sw n g rp rq f so nx pl mL qL mS qS sb cnt fd bw F sqs bu wb o) tg (some (.int (k_laws qL mL))) (k_U fr gt pn yr wg se sw n g rp rq f so nx pl mL qL mS qS sb cnt fd bw F sqs bu wb o) tg := by
  have hM := mM_X8_count_ok
  refine m_Sp_of (by decide) (Nat.le_of_ble_eq_true rfl) ?_
  refine m_J_run hM 2 rfl ⟨trivial, trivial, trivial⟩ ?_
  refine m_J_if (fun hc => absurd hc (by decide)) (fun _ => ?_)
  refine m_J_run hM 3 rfl ⟨trivial, trivial, trivial, trivial⟩ ?_
  refine m_J_if (fun _ => ?_) (fun hc => absurd (by decide) hc)
  refine m_J_run hM 1 rfl ⟨trivial, trivial⟩ ?_
  refine m_J_run hM 1 rfl ⟨by decide, trivial⟩ ?_
  refine m_J_run hM 1 rfl ⟨trivial, trivial⟩ ?_
  refine m_J_getf hM rfl rfl (rfl) (rfl) ?_
  refine m_callV (as := []) (rest := []) (m_EX_warm E N xs) hM rfl kw_X8_240 rfl rfl (k_U_cnt.1) ⟨_, rfl, rfl⟩ (b_laws (k_U_BL hm hq)) rfl (Nat.le_of_ble_eq_true rfl) (Nat.le_of_ble_eq_true rfl) (Nat.le_of_ble_eq_true rfl) (fun ht => ⟨ht, by simp⟩) ?_
  exact m_iret hM rfl rfl rfl (Nat.le_of_ble_eq_true rfl) (Nat.le_of_ble_eq_true rfl) (rfl) (rfl)
set_option maxHeartbeats 2000000 in
theorem x_count_8  : m_Dt l (m_EX E N xs) E mM_X8_count (d + 2) 0 0 [.ref 0, .int (nI 8)] (k_U fr gt pn yr wg se sw n g rp rq f so nx pl mL qL mS qS sb cnt fd bw F sqs bu wb o) tg (some (.int (nI pn))) (k_U fr gt pn yr wg se sw n g rp rq f so nx pl mL qL mS qS sb cnt fd bw F sqs bu wb o) tg := by
  have hM := mM_X8_count_ok
  refine m_Sp_of (by decide) (Nat.le_of_ble_eq_true rfl) ?_
  refine m_J_run hM 2 rfl ⟨trivial, trivial, trivial⟩ ?_
  refine m_J_if (fun hc => absurd hc (by decide)) (fun _ => ?_)
  refine m_J_run hM 3 rfl ⟨trivial, trivial, trivial, trivial⟩ ?_
  refine m_J_if (fun _ => ?_) (fun hc => absurd (by decide) hc)
  refine m_J_run hM 1 rfl ⟨trivial, trivial⟩ ?_
  refine m_J_run hM 1 rfl ⟨by decide, trivial⟩ ?_
  refine m_J_run hM 1 rfl ⟨trivial, trivial⟩ ?_
  refine m_J_getf hM rfl rfl (rfl) (rfl) ?_
  exact m_iret hM rfl rfl rfl (Nat.le_of_ble_eq_true rfl) (Nat.le_of_ble_eq_true rfl) (rfl) (rfl)
set_option maxHeartbeats 2000000 in
theorem x_count_9  : m_Dt l (m_EX E N xs) E mM_X8_count (d + 2) 0 0 [.ref 0, .int (nI 9)] (k_U fr gt pn yr wg se sw n g rp rq f so nx pl mL qL mS qS sb cnt fd bw F sqs bu wb o) tg (some (.int (nI yr))) (k_U fr gt pn yr wg se sw n g rp rq f so nx pl mL qL mS qS sb cnt fd bw F sqs bu wb o) tg := by
  have hM := mM_X8_count_ok
  refine m_Sp_of (by decide) (Nat.le_of_ble_eq_true rfl) ?_
  refine m_J_run hM 2 rfl ⟨trivial, trivial, trivial⟩ ?_
  refine m_J_if (fun hc => absurd hc (by decide)) (fun _ => ?_)
  refine m_J_run hM 3 rfl ⟨trivial, trivial, trivial, trivial⟩ ?_
  refine m_J_if (fun _ => ?_) (fun hc => absurd (by decide) hc)
  refine m_J_run hM 1 rfl ⟨trivial, trivial⟩ ?_
  refine m_J_run hM 1 rfl ⟨by decide, trivial⟩ ?_
  refine m_J_run hM 1 rfl ⟨trivial, trivial⟩ ?_
  refine m_J_getf hM rfl rfl (rfl) (rfl) ?_
  exact m_iret hM rfl rfl rfl (Nat.le_of_ble_eq_true rfl) (Nat.le_of_ble_eq_true rfl) (rfl) (rfl)
set_option maxHeartbeats 2000000 in
theorem x_count_x {x : Int32} (hx : x < 0 ∨ nI 9 < x) : m_Dt l (m_EX E N xs) E mM_X8_count (d + 2) 0 0 [.ref 0, .int x] (k_U fr gt pn yr wg se sw n g rp rq f so nx pl mL qL mS qS sb cnt fd bw F sqs bu wb o) tg (some (.int (-nI 1))) (k_U fr gt pn yr wg se sw n g rp rq f so nx pl mL qL mS qS sb cnt fd bw F sqs bu wb o) tg := by
  have hM := mM_X8_count_ok
  refine m_Sp_of (by decide) (Nat.le_of_ble_eq_true rfl) ?_
  have hx2 : x.toInt < 5 ∨ 9 < x.toInt := by
    rcases hx with q | q
    · left; have := Int32.lt_iff_toInt_lt.mp q; have e0 : (0 : Int32).toInt = 0 := by decide
      omega
    · right; have := Int32.lt_iff_toInt_lt.mp q; have e0 : (nI 9).toInt = 9 := by decide
      omega
  have e : m_off 69 5 9 #[35, 43, 51, 59, 64] x = 69 := if_pos hx2
  refine m_J_join (S2 := (24, [some (.ref 0), some (.int x)], [], (k_U fr gt pn yr wg se sw n g rp rq f so nx pl mL qL mS qS sb cnt fd bw F sqs bu wb o))) ?_ ?_
  · intro hJ
    refine m_J_run hM 2 rfl ⟨trivial, trivial, trivial⟩ ?_
    refine m_J_if (fun hc => ?_) (fun hc => ?_)
    · exact hJ
    · refine m_J_run hM 3 rfl ⟨trivial, trivial, trivial, trivial⟩ ?_
      have hc0 := hc
      refine m_J_if (fun _ => ?_) (fun hc => absurd (by rcases hx with q | q; exact absurd q hc0; exact Int32.le_of_lt (Int32.lt_trans (by decide) q)) hc)
      exact hJ
  refine m_J_run hM 1 rfl ⟨trivial, trivial⟩ ?_
  refine m_J_run hM 1 rfl ⟨⟨by rw [e]; decide, fun q => absurd hx2 q⟩, trivial⟩ ?_
  rw [e]
  refine m_J_run hM 1 rfl ⟨trivial, trivial⟩ ?_
  exact m_iret hM rfl rfl rfl (Nat.le_of_ble_eq_true rfl) (Nat.le_of_ble_eq_true rfl) (rfl) (rfl)
end
