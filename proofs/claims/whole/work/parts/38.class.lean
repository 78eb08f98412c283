/-! THE METHODS OF LandUses (written by wip/gen_class.py) -/
theorem kt_IA : m_tw RX8 97 101 "java/lang/IllegalArgumentException" = true := by decide +kernel
theorem kt_IO : m_tw RX8 248 252 "java/lang/IndexOutOfBoundsException" = true := by decide +kernel
section
variable {l : Launch} {EX : State → Prop} {E : mE} {M : mM} {d mc ms : Nat} {PX : String → mH → Prop} {tg : Bool} {kc ks : Nat} {pc t : Nat} {L : List (Option Value)} {h h1 : mH}
theorem m_aret (hM : m_okM M = true) (hf : (m_tb M).lookup pc = some (.areturn, t)) {a : Nat} {ty : FieldType} (hr : M.2.2.2.1 = some ty) (hn : (∃ n, ty = .object n) ∨ ∃ t, ty = .array t) (hc : kc ≤ mc) (hs : ks ≤ ms) (eh : h = h1) : m_J l EX E M d mc ms (m_K (some (.ref a)) h1 tg) PX tg kc ks (pc, L, [.ref a], h) := by
  subst eh
  exact m_J_aret hM hf hr hn hc hs ⟨rfl, rfl, rfl⟩
theorem k_fr_set {a : Nat} {B : List Nat} {H : mH} {c : va_E} (hF : k_fr (a :: B) h H) (hc : H[a]? = some c) : k_fr B (h.set a c) H := by
  refine ⟨by rw [List.length_set]; exact hF.1, fun k hk => ?_⟩
  by_cases e : a = k
  · subst e
    rw [hc, List.getElem?_set_self (by rw [← hF.1]; exact k_lt hc)]
  · rw [List.getElem?_set_ne e]
    exact hF.2 k (by simp only [List.mem_cons, not_or]; exact ⟨Ne.symm e, hk⟩)
theorem k_fr_nil {H : mH} (hF : k_fr [] h H) : H = h := by
  apply List.ext_getElem?
  intro k
  exact hF.2 k (by simp)
end
section
variable {l : Launch} {E : mE} {N : Nat} {xs : Nat → Int32} {d : Nat} {tg : Bool}
variable {fr : Int64} {gt : Nat} {pn : Nat} {yr : Nat} {wg : Int32} {se : Bool} {sw : Bool} {n : Nat} {g : Nat → Int32} {rp : Nat} {rq : Int32} {f : Nat → Int64} {so : Nat → Int32} {nx : Nat → Int64} {pl : Nat → Nat → Int64} {mL : Nat} {qL : Nat → kL} {mS : Nat} {qS : Nat → kL} {sb : Nat} {cnt : Nat} {fd : Bool} {bw : Int32} {F : Nat → Int64} {sqs : Nat → Nat} {bu : Nat → Int64} {wb : Nat → Int32} {o : mH}
theorem k_U_BL (hm : mL ≤ 14) (hq : ∀ i, i < 14 → k_lok (qL i)) : k_BK (k_U fr gt pn yr wg se sw n g rp rq f so nx pl mL qL mS qS sb cnt fd bw F sqs bu wb o) (bif sw then 46 else 30) (bif sw then 47 else 31) (fun i => (bif sw then 47 else 31) + 1 + i) mL qL := by
  cases sw with
  | false =>
    refine ⟨rfl, rfl, fun i hi => ?_, hm, hq⟩
    match i with
    | 0 => rfl
    | 1 => rfl
    | 2 => rfl
    | 3 => rfl
    | 4 => rfl
    | 5 => rfl
    | 6 => rfl
    | 7 => rfl
    | 8 => rfl
    | 9 => rfl
    | 10 => rfl
    | 11 => rfl
    | 12 => rfl
    | 13 => rfl
    | i + 14 => exact absurd hi (by omega)
  | true =>
    refine ⟨rfl, rfl, fun i hi => ?_, hm, hq⟩
    match i with
    | 0 => rfl
    | 1 => rfl
    | 2 => rfl
    | 3 => rfl
    | 4 => rfl
    | 5 => rfl
    | 6 => rfl
    | 7 => rfl
    | 8 => rfl
    | 9 => rfl
    | 10 => rfl
    | 11 => rfl
    | 12 => rfl
    | 13 => rfl
    | i + 14 => exact absurd hi (by omega)
theorem k_U_BS (hm : mS ≤ 14) (hq : ∀ i, i < 14 → k_lok (qS i)) : k_BK (k_U fr gt pn yr wg se sw n g rp rq f so nx pl mL qL mS qS sb cnt fd bw F sqs bu wb o) (bif sw then 30 else 46) (bif sw then 31 else 47) (fun i => (bif sw then 31 else 47) + 1 + i) mS qS := by
  cases sw with
  | false =>
    refine ⟨rfl, rfl, fun i hi => ?_, hm, hq⟩
    match i with
    | 0 => rfl
    | 1 => rfl
    | 2 => rfl
    | 3 => rfl
    | 4 => rfl
    | 5 => rfl
    | 6 => rfl
    | 7 => rfl
    | 8 => rfl
    | 9 => rfl
    | 10 => rfl
    | 11 => rfl
    | 12 => rfl
    | 13 => rfl
    | i + 14 => exact absurd hi (by omega)
  | true =>
    refine ⟨rfl, rfl, fun i hi => ?_, hm, hq⟩
    match i with
    | 0 => rfl
    | 1 => rfl
    | 2 => rfl
    | 3 => rfl
    | 4 => rfl
    | 5 => rfl
    | 6 => rfl
    | 7 => rfl
    | 8 => rfl
    | 9 => rfl
    | 10 => rfl
    | 11 => rfl
    | 12 => rfl
    | 13 => rfl
    | i + 14 => exact absurd hi (by omega)
theorem k_U_LD : k_LD (k_U fr gt pn yr wg se sw n g rp rq f so nx pl mL qL mS qS sb cnt fd bw F sqs bu wb o) 4 5 6 7 8 (k_w0 5) f so := by
  refine ⟨rfl, rfl, rfl, rfl, rfl, fun i hi => ?_⟩
  match i with
  | 0 => rfl
  | 1 => rfl
  | 2 => rfl
  | 3 => rfl
  | 4 => rfl
  | 5 => rfl
  | i + 6 => exact absurd hi (by omega)
theorem k_U_LT : k_LD (k_U fr gt pn yr wg se sw n g rp rq f so nx pl mL qL mS qS sb cnt fd bw F sqs bu wb o) 63 64 65 7 8 (k_w0 5) F so := by
  refine ⟨rfl, rfl, rfl, rfl, rfl, fun i hi => ?_⟩
  match i with
  | 0 => rfl
  | 1 => rfl
  | 2 => rfl
  | 3 => rfl
  | 4 => rfl
  | 5 => rfl
  | i + 6 => exact absurd hi (by omega)
theorem k_U_TP (hn : n ≤ 400) : k_TP (k_U fr gt pn yr wg se sw n g rp rq f so nx pl mL qL mS qS sb cnt fd bw F sqs bu wb o) 3 1 2 rp rq n g := ⟨rfl, rfl, rfl, hn⟩
theorem k_U_cnt : (k_U fr gt pn yr wg se sw n g rp rq f so nx pl mL qL mS qS sb cnt fd bw F sqs bu wb o)[(bif sw then 46 else 30)]? = some (.inr (0, [.ref (bif sw then 47 else 31), .int (nI mL)])) ∧ (k_U fr gt pn yr wg se sw n g rp rq f so nx pl mL qL mS qS sb cnt fd bw F sqs bu wb o)[(bif sw then 30 else 46)]? = some (.inr (0, [.ref (bif sw then 31 else 47), .int (nI mS)])) := by cases sw <;> exact ⟨rfl, rfl⟩
theorem k_U_pl {i : Nat} (hi : i < 6) : (k_U fr gt pn yr wg se sw n g rp rq f so nx pl mL qL mS qS sb cnt fd bw F sqs bu wb o)[18 + 2 * i]? = some (k_uses (19 + 2 * i)) ∧ (k_U fr gt pn yr wg se sw n g rp rq f so nx pl mL qL mS qS sb cnt fd bw F sqs bu wb o)[19 + 2 * i]? = some (k_la 5 (pl i)) := by
  match i with
  | 0 => exact ⟨rfl, rfl⟩
  | 1 => exact ⟨rfl, rfl⟩
  | 2 => exact ⟨rfl, rfl⟩
  | 3 => exact ⟨rfl, rfl⟩
  | 4 => exact ⟨rfl, rfl⟩
  | 5 => exact ⟨rfl, rfl⟩
  | i + 6 => exact absurd hi (by omega)
theorem x_cs {a : Nat} (ha : a < 60) {h : mH} : m_Dt l (m_EX E N xs) E mM_X8_checkSquare d 0 0 [.int (nI a)] h tg none h tg := by
  have hM := mM_X8_checkSquare_ok
  refine m_Sp_of (by decide) (Nat.le_of_ble_eq_true rfl) ?_
  refine m_J_run hM 2 rfl ⟨trivial, trivial, trivial⟩ ?_
  refine m_J_if (fun hc => absurd hc (nI_pos (by omega))) (fun _ => ?_)
  refine m_J_run hM 3 rfl ⟨trivial, trivial, trivial, trivial⟩ ?_
  refine m_J_if (fun _ => ?_) (fun hc => absurd (nI_lt ha (by omega)) hc)
  exact m_vret hM rfl rfl (Nat.le_of_ble_eq_true rfl) (Nat.le_of_ble_eq_true rfl) (rfl)
theorem x_cs_x (hl : l.stackTraces = false) {x : Int32} (hx : x < 0 ∨ ¬ x < nI 60) {h : mH} : m_Dx l (m_EX E N xs) E mM_X8_checkSquare d 1 6 [.int x] h tg "java/lang/IndexOutOfBoundsException" h := by
  have hM := mM_X8_checkSquare_ok
  refine m_Sp_of (by decide) (Nat.le_of_ble_eq_true rfl) ?_
  refine m_J_run hM 2 rfl ⟨trivial, trivial, trivial⟩ ?_
  refine m_J_if (fun hc => ?_) (fun hc => ?_)
  · exact m_J_throw (si := 0) (nm := "java/lang/IndexOutOfBoundsException") (rest := []) hl hM rfl rfl rfl rfl rfl rfl rfl kt_IO (Nat.le_of_ble_eq_true rfl) (Nat.le_of_ble_eq_true rfl) (Nat.le_of_ble_eq_true rfl) ⟨rfl, rfl⟩
  refine m_J_run hM 3 rfl ⟨trivial, trivial, trivial, trivial⟩ ?_
  refine m_J_if (fun hc2 => absurd hc2 (hx.resolve_left hc)) (fun _ => ?_)
  exact m_J_throw (si := 0) (nm := "java/lang/IndexOutOfBoundsException") (rest := []) hl hM rfl rfl rfl rfl rfl rfl rfl kt_IO (Nat.le_of_ble_eq_true rfl) (Nat.le_of_ble_eq_true rfl) (Nat.le_of_ble_eq_true rfl) ⟨rfl, rfl⟩
set_option maxHeartbeats 2000000 in
theorem x_checkPlan {a : Nat} (ha : a < pn) (hb : pn ≤ 14) : m_Dt l (m_EX E N xs) E mM_X8_checkPlan d 0 0 [.ref 0, .int (nI a)] (k_U fr gt pn yr wg se sw n g rp rq f so nx pl mL qL mS qS sb cnt fd bw F sqs bu wb o) tg (none) (k_U fr gt pn yr wg se sw n g rp rq f so nx pl mL qL mS qS sb cnt fd bw F sqs bu wb o) tg := by
  have hM := mM_X8_checkPlan_ok
  refine m_Sp_of (by decide) (Nat.le_of_ble_eq_true rfl) ?_
  refine m_J_run hM 2 rfl ⟨trivial, trivial, trivial⟩ ?_
  refine m_J_if (fun hc => absurd hc (nI_pos (by omega))) (fun _ => ?_)
  refine m_J_run hM 2 rfl ⟨trivial, trivial, trivial⟩ ?_
  refine m_J_getf hM rfl rfl (rfl) (rfl) ?_
  refine m_J_run hM 1 rfl ⟨trivial, trivial⟩ ?_
  refine m_J_if (fun _ => ?_) (fun hc => absurd (nI_lt ha (by omega)) hc)
  exact m_vret hM rfl rfl (Nat.le_of_ble_eq_true rfl) (Nat.le_of_ble_eq_true rfl) (rfl)
set_option maxHeartbeats 2000000 in
theorem x_checkPlan_x (hl : l.stackTraces = false) {x : Int32} (hx : x < 0 ∨ ¬ x < nI pn) : m_Dx l (m_EX E N xs) E mM_X8_checkPlan d 1 6 [.ref 0, .int x] (k_U fr gt pn yr wg se sw n g rp rq f so nx pl mL qL mS qS sb cnt fd bw F sqs bu wb o) tg "java/lang/IndexOutOfBoundsException" (k_U fr gt pn yr wg se sw n g rp rq f so nx pl mL qL mS qS sb cnt fd bw F sqs bu wb o) := by
  have hM := mM_X8_checkPlan_ok
  refine m_Sp_of (by decide) (Nat.le_of_ble_eq_true rfl) ?_
  refine m_J_run hM 2 rfl ⟨trivial, trivial, trivial⟩ ?_
  refine m_J_if (fun hc => ?_) (fun hc => ?_)
  · exact m_J_throw (si := 25) (nm := "java/lang/IndexOutOfBoundsException") (rest := []) hl hM rfl rfl rfl rfl rfl rfl rfl kt_IO (Nat.le_of_ble_eq_true rfl) (Nat.le_of_ble_eq_true rfl) (Nat.le_of_ble_eq_true rfl) ⟨rfl, rfl⟩
  refine m_J_run hM 2 rfl ⟨trivial, trivial, trivial⟩ ?_
  refine m_J_getf hM rfl rfl (rfl) (rfl) ?_
  refine m_J_run hM 1 rfl ⟨trivial, trivial⟩ ?_
  refine m_J_if (fun hc2 => absurd hc2 (hx.resolve_left hc)) (fun _ => ?_)
  exact m_J_throw (si := 25) (nm := "java/lang/IndexOutOfBoundsException") (rest := []) hl hM rfl rfl rfl rfl rfl rfl rfl kt_IO (Nat.le_of_ble_eq_true rfl) (Nat.le_of_ble_eq_true rfl) (Nat.le_of_ble_eq_true rfl) ⟨rfl, rfl⟩
set_option maxHeartbeats 2000000 in
theorem x_checkLine {a : Nat} (ha : a < mL) (hb : mL ≤ 14) : m_Dt l (m_EX E N xs) E mM_X8_checkLine d 0 0 [.ref 0, .int (nI a)] (k_U fr gt pn yr wg se sw n g rp rq f so nx pl mL qL mS qS sb cnt fd bw F sqs bu wb o) tg (none) (k_U fr gt pn yr wg se sw n g rp rq f so nx pl mL qL mS qS sb cnt fd bw F sqs bu wb o) tg := by
  have hM := mM_X8_checkLine_ok
  refine m_Sp_of (by decide) (Nat.le_of_ble_eq_true rfl) ?_
  refine m_J_run hM 2 rfl ⟨trivial, trivial, trivial⟩ ?_
  refine m_J_if (fun hc => absurd hc (nI_pos (by omega))) (fun _ => ?_)
  refine m_J_run hM 2 rfl ⟨trivial, trivial, trivial⟩ ?_
  refine m_J_getf hM rfl rfl (rfl) (rfl) ?_
  refine m_J_getf hM rfl rfl ((k_U_cnt (sw := sw)).1) (rfl) ?_
  refine m_J_run hM 1 rfl ⟨trivial, trivial⟩ ?_
  refine m_J_if (fun _ => ?_) (fun hc => absurd (nI_lt ha (by omega)) hc)
  exact m_vret hM rfl rfl (Nat.le_of_ble_eq_true rfl) (Nat.le_of_ble_eq_true rfl) (rfl)
set_option maxHeartbeats 2000000 in
theorem x_checkLine_x (hl : l.stackTraces = false) {x : Int32} (hx : x < 0 ∨ ¬ x < nI mL) : m_Dx l (m_EX E N xs) E mM_X8_checkLine d 1 6 [.ref 0, .int x] (k_U fr gt pn yr wg se sw n g rp rq f so nx pl mL qL mS qS sb cnt fd bw F sqs bu wb o) tg "java/lang/IndexOutOfBoundsException" (k_U fr gt pn yr wg se sw n g rp rq f so nx pl mL qL mS qS sb cnt fd bw F sqs bu wb o) := by
  have hM := mM_X8_checkLine_ok
  refine m_Sp_of (by decide) (Nat.le_of_ble_eq_true rfl) ?_
  refine m_J_run hM 2 rfl ⟨trivial, trivial, trivial⟩ ?_
  refine m_J_if (fun hc => ?_) (fun hc => ?_)
  · exact m_J_throw (si := 20) (nm := "java/lang/IndexOutOfBoundsException") (rest := []) hl hM rfl rfl rfl rfl rfl rfl rfl kt_IO (Nat.le_of_ble_eq_true rfl) (Nat.le_of_ble_eq_true rfl) (Nat.le_of_ble_eq_true rfl) ⟨rfl, rfl⟩
  refine m_J_run hM 2 rfl ⟨trivial, trivial, trivial⟩ ?_
  refine m_J_getf hM rfl rfl (rfl) (rfl) ?_
  refine m_J_getf hM rfl rfl ((k_U_cnt (sw := sw)).1) (rfl) ?_
  refine m_J_run hM 1 rfl ⟨trivial, trivial⟩ ?_
  refine m_J_if (fun hc2 => absurd hc2 (hx.resolve_left hc)) (fun _ => ?_)
  exact m_J_throw (si := 20) (nm := "java/lang/IndexOutOfBoundsException") (rest := []) hl hM rfl rfl rfl rfl rfl rfl rfl kt_IO (Nat.le_of_ble_eq_true rfl) (Nat.le_of_ble_eq_true rfl) (Nat.le_of_ble_eq_true rfl) ⟨rfl, rfl⟩
set_option maxHeartbeats 2000000 in
theorem x_feed {a b c e i : Int32} (hn : n ≤ 380) : m_Dt l (m_EX E N xs) E mM_X8_feed (d + 1) 0 0 [.ref 0, .int a, .int b, .int c, .int e, .int i] (k_U fr gt pn yr wg se sw n g rp rq f so nx pl mL qL mS qS sb cnt fd bw F sqs bu wb o) tg (some (.int (nI (n + 20)))) (k_U fr gt pn yr wg se sw (n + 20) (k_ap (k_ap (k_ap (k_ap (k_ap g n a 4) (n + 4) b 4) (n + 8) c 4) (n + 12) e 4) (n + 16) i 4) rp rq f so nx pl mL qL mS qS sb cnt fd bw F sqs bu wb o) tg := by
  have hM := mM_X8_feed_ok
  refine m_Sp_of (by decide) (Nat.le_of_ble_eq_true rfl) ?_
  refine m_J_run hM 1 rfl ⟨trivial, trivial⟩ ?_
  refine m_J_getf hM rfl rfl (rfl) (rfl) ?_
  refine m_callV (as := []) (rest := []) (m_EX_warm E N xs) hM rfl kw_X8_83 rfl rfl (rfl) ⟨_, rfl, rfl⟩ (t_room (tb := 2) (n := n) rfl) rfl (Nat.le_of_ble_eq_true rfl) (Nat.le_of_ble_eq_true rfl) (Nat.le_of_ble_eq_true rfl) (fun ht => ⟨ht, by simp⟩) ?_
  rw [show k_z (decide (¬ nI 380 < nI n)) = nI 1 by simp [k_z, nI_nlt hn (by omega)]]
  refine m_J_run hM 1 rfl ⟨trivial, trivial⟩ ?_
  refine m_J_if (fun _ => ?_) (fun hc => absurd (by decide) hc)
  refine m_J_run hM 1 rfl ⟨trivial, trivial⟩ ?_
  refine m_J_getf hM rfl rfl (rfl) (rfl) ?_
  refine m_J_run hM 1 rfl ⟨trivial, trivial⟩ ?_
  refine m_callV (as := [.int a]) (rest := []) (m_EX_warm E N xs) hM rfl kw_X8_87 rfl rfl (rfl) ⟨_, rfl, rfl⟩ (t_append (tb := 2) (n := n + 0) rfl rfl (by omega)) rfl (Nat.le_of_ble_eq_true rfl) (Nat.le_of_ble_eq_true rfl) (Nat.le_of_ble_eq_true rfl) (fun ht => ⟨ht, by simp⟩) ?_
  refine m_J_eqH (H' := (k_U fr gt pn yr wg se sw (n + 4) (k_ap (g) (n + 0) a 4) rp rq f so nx pl mL qL mS qS sb cnt fd bw F sqs bu wb o)) rfl ?_
  refine m_J_run hM 1 rfl ⟨trivial, trivial⟩ ?_
  refine m_J_getf hM rfl rfl (rfl) (rfl) ?_
  refine m_J_run hM 1 rfl ⟨trivial, trivial⟩ ?_
  refine m_callV (as := [.int b]) (rest := []) (m_EX_warm E N xs) hM rfl kw_X8_87 rfl rfl (rfl) ⟨_, rfl, rfl⟩ (t_append (tb := 2) (n := n + 4) rfl rfl (by omega)) rfl (Nat.le_of_ble_eq_true rfl) (Nat.le_of_ble_eq_true rfl) (Nat.le_of_ble_eq_true rfl) (fun ht => ⟨ht, by simp⟩) ?_
  refine m_J_eqH (H' := (k_U fr gt pn yr wg se sw (n + 8) (k_ap (k_ap (g) (n + 0) a 4) (n + 4) b 4) rp rq f so nx pl mL qL mS qS sb cnt fd bw F sqs bu wb o)) rfl ?_
  refine m_J_run hM 1 rfl ⟨trivial, trivial⟩ ?_
  refine m_J_getf hM rfl rfl (rfl) (rfl) ?_
  refine m_J_run hM 1 rfl ⟨trivial, trivial⟩ ?_
  refine m_callV (as := [.int c]) (rest := []) (m_EX_warm E N xs) hM rfl kw_X8_87 rfl rfl (rfl) ⟨_, rfl, rfl⟩ (t_append (tb := 2) (n := n + 8) rfl rfl (by omega)) rfl (Nat.le_of_ble_eq_true rfl) (Nat.le_of_ble_eq_true rfl) (Nat.le_of_ble_eq_true rfl) (fun ht => ⟨ht, by simp⟩) ?_
  refine m_J_eqH (H' := (k_U fr gt pn yr wg se sw (n + 12) (k_ap (k_ap (k_ap (g) (n + 0) a 4) (n + 4) b 4) (n + 8) c 4) rp rq f so nx pl mL qL mS qS sb cnt fd bw F sqs bu wb o)) rfl ?_
  refine m_J_run hM 1 rfl ⟨trivial, trivial⟩ ?_
  refine m_J_getf hM rfl rfl (rfl) (rfl) ?_
  refine m_J_run hM 1 rfl ⟨trivial, trivial⟩ ?_
  refine m_callV (as := [.int e]) (rest := []) (m_EX_warm E N xs) hM rfl kw_X8_87 rfl rfl (rfl) ⟨_, rfl, rfl⟩ (t_append (tb := 2) (n := n + 12) rfl rfl (by omega)) rfl (Nat.le_of_ble_eq_true rfl) (Nat.le_of_ble_eq_true rfl) (Nat.le_of_ble_eq_true rfl) (fun ht => ⟨ht, by simp⟩) ?_
  refine m_J_eqH (H' := (k_U fr gt pn yr wg se sw (n + 16) (k_ap (k_ap (k_ap (k_ap (g) (n + 0) a 4) (n + 4) b 4) (n + 8) c 4) (n + 12) e 4) rp rq f so nx pl mL qL mS qS sb cnt fd bw F sqs bu wb o)) rfl ?_
  refine m_J_run hM 1 rfl ⟨trivial, trivial⟩ ?_
  refine m_J_getf hM rfl rfl (rfl) (rfl) ?_
  refine m_J_run hM 1 rfl ⟨trivial, trivial⟩ ?_
  refine m_callV (as := [.int i]) (rest := []) (m_EX_warm E N xs) hM rfl kw_X8_87 rfl rfl (rfl) ⟨_, rfl, rfl⟩ (t_append (tb := 2) (n := n + 16) rfl rfl (by omega)) rfl (Nat.le_of_ble_eq_true rfl) (Nat.le_of_ble_eq_true rfl) (Nat.le_of_ble_eq_true rfl) (fun ht => ⟨ht, by simp⟩) ?_
  refine m_J_eqH (H' := (k_U fr gt pn yr wg se sw (n + 20) (k_ap (k_ap (k_ap (k_ap (k_ap (g) (n + 0) a 4) (n + 4) b 4) (n + 8) c 4) (n + 12) e 4) (n + 16) i 4) rp rq f so nx pl mL qL mS qS sb cnt fd bw F sqs bu wb o)) rfl ?_
  refine m_J_run hM 1 rfl ⟨trivial, trivial⟩ ?_
  refine m_J_getf hM rfl rfl (rfl) (rfl) ?_
  refine m_J_getf hM rfl rfl (rfl) (rfl) ?_
  exact m_iret hM rfl rfl rfl (Nat.le_of_ble_eq_true rfl) (Nat.le_of_ble_eq_true rfl) (rfl) (rfl)
set_option maxHeartbeats 2000000 in
theorem x_feed_n {a b c e i : Int32} (hn : 380 < n) (hn2 : n ≤ 400) : m_Dt l (m_EX E N xs) E mM_X8_feed (d + 1) 0 0 [.ref 0, .int a, .int b, .int c, .int e, .int i] (k_U fr gt pn yr wg se sw n g rp rq f so nx pl mL qL mS qS sb cnt fd bw F sqs bu wb o) tg (some (.int (-nI 1))) (k_U fr gt pn yr wg se sw n g rp rq f so nx pl mL qL mS qS sb cnt fd bw F sqs bu wb o) tg := by
  have hM := mM_X8_feed_ok
  refine m_Sp_of (by decide) (Nat.le_of_ble_eq_true rfl) ?_
  refine m_J_run hM 1 rfl ⟨trivial, trivial⟩ ?_
  refine m_J_getf hM rfl rfl (rfl) (rfl) ?_
  refine m_callV (as := []) (rest := []) (m_EX_warm E N xs) hM rfl kw_X8_83 rfl rfl (rfl) ⟨_, rfl, rfl⟩ (t_room (tb := 2) (n := n) rfl) rfl (Nat.le_of_ble_eq_true rfl) (Nat.le_of_ble_eq_true rfl) (Nat.le_of_ble_eq_true rfl) (fun ht => ⟨ht, by simp⟩) ?_
  rw [show k_z (decide (¬ nI 380 < nI n)) = nI 0 by simp [k_z, nI_lt hn (by omega)]]
  refine m_J_run hM 1 rfl ⟨trivial, trivial⟩ ?_
  refine m_J_if (fun hc => absurd hc (by decide)) (fun _ => ?_)
  refine m_J_run hM 1 rfl ⟨trivial, trivial⟩ ?_
  exact m_iret hM rfl rfl rfl (Nat.le_of_ble_eq_true rfl) (Nat.le_of_ble_eq_true rfl) (rfl) (rfl)
set_option maxHeartbeats 2000000 in
theorem x_end {a : Nat} (ha : a ≤ n) (hn : n ≤ 400) : m_Dt l (m_EX E N xs) E mM_X8_end d 0 0 [.ref 0, .int (nI a)] (k_U fr gt pn yr wg se sw n g rp rq f so nx pl mL qL mS qS sb cnt fd bw F sqs bu wb o) tg (some (.int (nI 1))) (k_U fr gt pn yr wg se sw (a) g rp rq f so nx pl mL qL mS qS sb cnt fd bw F sqs bu wb o) tg := by
  have hM := mM_X8_end_ok
  refine m_Sp_of (by decide) (Nat.le_of_ble_eq_true rfl) ?_
  refine m_J_run hM 2 rfl ⟨trivial, trivial, trivial⟩ ?_
  refine m_J_if (fun hc => absurd hc (nI_pos (by omega))) (fun _ => ?_)
  refine m_J_run hM 2 rfl ⟨trivial, trivial, trivial⟩ ?_
  refine m_J_getf hM rfl rfl (rfl) (rfl) ?_
  refine m_J_getf hM rfl rfl (rfl) (rfl) ?_
  refine m_J_run hM 1 rfl ⟨trivial, trivial⟩ ?_
  refine m_J_if (fun _ => ?_) (fun hc => absurd (nI_le ha (by omega)) hc)
  refine m_J_run hM 1 rfl ⟨trivial, trivial⟩ ?_
  refine m_J_getf hM rfl rfl (rfl) (rfl) ?_
  refine m_J_run hM 1 rfl ⟨trivial, trivial⟩ ?_
  refine m_J_putf hM rfl rfl (rfl) (rfl) ?_
  refine m_J_run hM 1 rfl ⟨trivial, trivial⟩ ?_
  exact m_iret hM rfl rfl (by decide) (Nat.le_of_ble_eq_true rfl) (Nat.le_of_ble_eq_true rfl) (rfl) (rfl)
set_option maxHeartbeats 2000000 in
theorem x_end_n {x : Int32} (hx : x < 0 ∨ ¬ x ≤ nI n) : m_Dt l (m_EX E N xs) E mM_X8_end d 0 0 [.ref 0, .int x] (k_U fr gt pn yr wg se sw n g rp rq f so nx pl mL qL mS qS sb cnt fd bw F sqs bu wb o) tg (some (.int (nI 0))) (k_U fr gt pn yr wg se sw n g rp rq f so nx pl mL qL mS qS sb cnt fd bw F sqs bu wb o) tg := by
  have hM := mM_X8_end_ok
  refine m_Sp_of (by decide) (Nat.le_of_ble_eq_true rfl) ?_
  refine m_J_run hM 2 rfl ⟨trivial, trivial, trivial⟩ ?_
  refine m_J_if (fun hc => ?_) (fun hc => ?_)
  · refine m_J_run hM 1 rfl ⟨trivial, trivial⟩ ?_
    exact m_iret hM rfl rfl (by decide) (Nat.le_of_ble_eq_true rfl) (Nat.le_of_ble_eq_true rfl) (rfl) (rfl)
  refine m_J_run hM 2 rfl ⟨trivial, trivial, trivial⟩ ?_
  refine m_J_getf hM rfl rfl (rfl) (rfl) ?_
  refine m_J_getf hM rfl rfl (rfl) (rfl) ?_
  refine m_J_run hM 1 rfl ⟨trivial, trivial⟩ ?_
  refine m_J_if (fun hc2 => absurd hc2 (hx.resolve_left hc)) (fun _ => ?_)
  refine m_J_run hM 1 rfl ⟨trivial, trivial⟩ ?_
  exact m_iret hM rfl rfl (by decide) (Nat.le_of_ble_eq_true rfl) (Nat.le_of_ble_eq_true rfl) (rfl) (rfl)
set_option maxHeartbeats 2000000 in
theorem x_use {a b u : Nat} (ha : a < 60) (hb : b < 60) (hu : u < 5) : m_Dt l (m_EX E N xs) E mM_X8_use (d + 2) 0 0 [.ref 0, .int (nI a), .int (nI b), .int (nI u)] (k_U fr gt pn yr wg se sw n g rp rq f so nx pl mL qL mS qS sb cnt fd bw F sqs bu wb o) tg (some (.int (k_pc (k_rc a b &&& (f u ^^^ (-1)))))) (k_U fr gt pn yr wg (false) sw n g rp rq (k_put f (k_rc a b) u) so nx pl mL qL mS qS sb cnt fd bw F sqs bu wb o) tg := by
  have hM := mM_X8_use_ok
  refine m_Sp_of (by decide) (Nat.le_of_ble_eq_true rfl) ?_
  refine m_J_run hM 1 rfl ⟨trivial, trivial⟩ ?_
  refine m_callS (as := [.int (nI a)]) (rest := []) (m_EX_warm E N xs) hM rfl kw_X8_94 rfl (x_cs ha) rfl (Nat.le_of_ble_eq_true rfl) (Nat.le_of_ble_eq_true rfl) (Nat.le_of_ble_eq_true rfl) (fun ht => ⟨ht, Nat.le_refl _⟩) ?_
  refine m_J_run hM 1 rfl ⟨trivial, trivial⟩ ?_
  refine m_callS (as := [.int (nI b)]) (rest := []) (m_EX_warm E N xs) hM rfl kw_X8_94 rfl (x_cs hb) rfl (Nat.le_of_ble_eq_true rfl) (Nat.le_of_ble_eq_true rfl) (Nat.le_of_ble_eq_true rfl) (fun ht => ⟨ht, Nat.le_refl _⟩) ?_
  refine m_J_run hM 2 rfl ⟨trivial, trivial, trivial⟩ ?_
  refine m_J_if (fun hc => absurd hc (nI_pos (by omega))) (fun _ => ?_)
  refine m_J_run hM 3 rfl ⟨trivial, trivial, trivial, trivial⟩ ?_
  refine m_J_if (fun _ => ?_) (fun hc => absurd (nI_lt hu (by omega)) hc)
  refine m_J_run hM 2 rfl ⟨trivial, trivial, trivial⟩ ?_
  refine m_J_putf hM rfl rfl (rfl) (rfl) ?_
  refine m_J_run hM 1 rfl ⟨trivial, trivial⟩ ?_
  refine m_J_getf hM rfl rfl (rfl) (rfl) ?_
  refine m_J_getf hM rfl rfl (rfl) (rfl) ?_
  refine m_J_run hM 2 rfl ⟨trivial, trivial, trivial⟩ ?_
  refine m_callS (as := [.int (nI a), .int (nI b)]) (rest := [.ref 5]) (m_EX_warm E N xs) hM rfl kw_X8_107 rfl (s_rect a b ha hb) rfl (Nat.le_of_ble_eq_true rfl) (Nat.le_of_ble_eq_true rfl) (Nat.le_of_ble_eq_true rfl) (fun ht => ⟨ht, Nat.le_refl _⟩) ?_
  refine m_J_run hM 1 rfl ⟨trivial, trivial⟩ ?_
  refine m_callV (as := [.long (k_rc a b), .int (nI u)]) (rest := []) (m_EX_warm E N xs) hM rfl kw_X8_113 rfl rfl (rfl) ⟨_, rfl, rfl⟩ (u_put hu (b := 6) (f := f) rfl rfl) rfl (Nat.le_of_ble_eq_true rfl) (Nat.le_of_ble_eq_true rfl) (Nat.le_of_ble_eq_true rfl) (fun ht => ⟨ht, by simp⟩) ?_
  exact m_iret hM rfl rfl rfl (Nat.le_of_ble_eq_true rfl) (Nat.le_of_ble_eq_true rfl) (rfl) (rfl)
set_option maxHeartbeats 2000000 in
theorem x_use_1 (hl : l.stackTraces = false) {x y v : Int32} (hx : x < 0 ∨ ¬ x < nI 60) : m_Dx l (m_EX E N xs) E mM_X8_use (d + 1) 1 6 [.ref 0, .int x, .int y, .int v] (k_U fr gt pn yr wg se sw n g rp rq f so nx pl mL qL mS qS sb cnt fd bw F sqs bu wb o) tg "java/lang/IndexOutOfBoundsException" (k_U fr gt pn yr wg se sw n g rp rq f so nx pl mL qL mS qS sb cnt fd bw F sqs bu wb o) := by
  have hM := mM_X8_use_ok
  refine m_Sp_of (by decide) (Nat.le_of_ble_eq_true rfl) ?_
  refine m_J_run hM 1 rfl ⟨trivial, trivial⟩ ?_
  exact m_callSx (as := [.int x]) (rest := []) (m_EX_warm E N xs) hM rfl kw_X8_94 rfl (x_cs_x hl hx) rfl (Nat.le_of_ble_eq_true rfl) (Nat.le_of_ble_eq_true rfl) (Nat.le_of_ble_eq_true rfl) rfl (⟨rfl, rfl⟩)
set_option maxHeartbeats 2000000 in
theorem x_use_2 (hl : l.stackTraces = false) {a : Nat} {x v : Int32} (ha : a < 60) (hx : x < 0 ∨ ¬ x < nI 60) : m_Dx l (m_EX E N xs) E mM_X8_use (d + 1) 1 6 [.ref 0, .int (nI a), .int x, .int v] (k_U fr gt pn yr wg se sw n g rp rq f so nx pl mL qL mS qS sb cnt fd bw F sqs bu wb o) tg "java/lang/IndexOutOfBoundsException" (k_U fr gt pn yr wg se sw n g rp rq f so nx pl mL qL mS qS sb cnt fd bw F sqs bu wb o) := by
  have hM := mM_X8_use_ok
  refine m_Sp_of (by decide) (Nat.le_of_ble_eq_true rfl) ?_
  refine m_J_run hM 1 rfl ⟨trivial, trivial⟩ ?_
  refine m_callS (as := [.int (nI a)]) (rest := []) (m_EX_warm E N xs) hM rfl kw_X8_94 rfl (x_cs ha) rfl (Nat.le_of_ble_eq_true rfl) (Nat.le_of_ble_eq_true rfl) (Nat.le_of_ble_eq_true rfl) (fun ht => ⟨ht, Nat.le_refl _⟩) ?_
  refine m_J_run hM 1 rfl ⟨trivial, trivial⟩ ?_
  exact m_callSx (as := [.int x]) (rest := []) (m_EX_warm E N xs) hM rfl kw_X8_94 rfl (x_cs_x hl hx) rfl (Nat.le_of_ble_eq_true rfl) (Nat.le_of_ble_eq_true rfl) (Nat.le_of_ble_eq_true rfl) rfl (⟨rfl, rfl⟩)
set_option maxHeartbeats 2000000 in
theorem x_use_3 (hl : l.stackTraces = false) {a b : Nat} {x : Int32} (ha : a < 60) (hb : b < 60) (hx : x < 0 ∨ ¬ x < nI 5) : m_Dx l (m_EX E N xs) E mM_X8_use (d + 1) 1 6 [.ref 0, .int (nI a), .int (nI b), .int x] (k_U fr gt pn yr wg se sw n g rp rq f so nx pl mL qL mS qS sb cnt fd bw F sqs bu wb o) tg "java/lang/IllegalArgumentException" (k_U fr gt pn yr wg se sw n g rp rq f so nx pl mL qL mS qS sb cnt fd bw F sqs bu wb o) := by
  have hM := mM_X8_use_ok
  refine m_Sp_of (by decide) (Nat.le_of_ble_eq_true rfl) ?_
  refine m_J_run hM 1 rfl ⟨trivial, trivial⟩ ?_
  refine m_callS (as := [.int (nI a)]) (rest := []) (m_EX_warm E N xs) hM rfl kw_X8_94 rfl (x_cs ha) rfl (Nat.le_of_ble_eq_true rfl) (Nat.le_of_ble_eq_true rfl) (Nat.le_of_ble_eq_true rfl) (fun ht => ⟨ht, Nat.le_refl _⟩) ?_
  refine m_J_run hM 1 rfl ⟨trivial, trivial⟩ ?_
  refine m_callS (as := [.int (nI b)]) (rest := []) (m_EX_warm E N xs) hM rfl kw_X8_94 rfl (x_cs hb) rfl (Nat.le_of_ble_eq_true rfl) (Nat.le_of_ble_eq_true rfl) (Nat.le_of_ble_eq_true rfl) (fun ht => ⟨ht, Nat.le_refl _⟩) ?_
  refine m_J_run hM 2 rfl ⟨trivial, trivial, trivial⟩ ?_
  refine m_J_if (fun hc => ?_) (fun hc => ?_)
  · exact m_J_throw (si := 1) (nm := "java/lang/IllegalArgumentException") (rest := []) hl hM rfl rfl rfl rfl rfl rfl rfl kt_IA (Nat.le_of_ble_eq_true rfl) (Nat.le_of_ble_eq_true rfl) (Nat.le_of_ble_eq_true rfl) ⟨rfl, rfl⟩
  refine m_J_run hM 3 rfl ⟨trivial, trivial, trivial, trivial⟩ ?_
  refine m_J_if (fun hc2 => absurd hc2 (hx.resolve_left hc)) (fun _ => ?_)
  exact m_J_throw (si := 1) (nm := "java/lang/IllegalArgumentException") (rest := []) hl hM rfl rfl rfl rfl rfl rfl rfl kt_IA (Nat.le_of_ble_eq_true rfl) (Nat.le_of_ble_eq_true rfl) (Nat.le_of_ble_eq_true rfl) ⟨rfl, rfl⟩
set_option maxHeartbeats 2000000 in
theorem x_soil {a b u : Nat} (ha : a < 60) (hb : b < 60) (hu : u ≤ 9) : m_Dt l (m_EX E N xs) E mM_X8_soil (d + 3) 0 0 [.ref 0, .int (nI a), .int (nI b), .int (nI u)] (k_U fr gt pn yr wg se sw n g rp rq f so nx pl mL qL mS qS sb cnt fd bw F sqs bu wb o) tg (none) (k_U fr gt pn yr wg (false) sw n g rp rq f (k_soil so (k_rc a b) (nI u) 60) nx pl mL qL mS qS sb cnt fd bw F sqs bu wb o) tg := by
  have hM := mM_X8_soil_ok
  refine m_Sp_of (by decide) (Nat.le_of_ble_eq_true rfl) ?_
  refine m_J_run hM 1 rfl ⟨trivial, trivial⟩ ?_
  refine m_callS (as := [.int (nI a)]) (rest := []) (m_EX_warm E N xs) hM rfl kw_X8_94 rfl (x_cs ha) rfl (Nat.le_of_ble_eq_true rfl) (Nat.le_of_ble_eq_true rfl) (Nat.le_of_ble_eq_true rfl) (fun ht => ⟨ht, Nat.le_refl _⟩) ?_
  refine m_J_run hM 1 rfl ⟨trivial, trivial⟩ ?_
  refine m_callS (as := [.int (nI b)]) (rest := []) (m_EX_warm E N xs) hM rfl kw_X8_94 rfl (x_cs hb) rfl (Nat.le_of_ble_eq_true rfl) (Nat.le_of_ble_eq_true rfl) (Nat.le_of_ble_eq_true rfl) (fun ht => ⟨ht, Nat.le_refl _⟩) ?_
  refine m_J_run hM 2 rfl ⟨trivial, trivial, trivial⟩ ?_
  refine m_J_if (fun hc => absurd hc (nI_pos (by omega))) (fun _ => ?_)
  refine m_J_run hM 3 rfl ⟨trivial, trivial, trivial, trivial⟩ ?_
  refine m_J_if (fun _ => ?_) (fun hc => absurd (nI_le hu (by omega)) hc)
  refine m_J_run hM 2 rfl ⟨trivial, trivial, trivial⟩ ?_
  refine m_J_putf hM rfl rfl (rfl) (rfl) ?_
  refine m_J_run hM 1 rfl ⟨trivial, trivial⟩ ?_
  refine m_J_getf hM rfl rfl (rfl) (rfl) ?_
  refine m_J_run hM 2 rfl ⟨trivial, trivial, trivial⟩ ?_
  refine m_callS (as := [.int (nI a), .int (nI b)]) (rest := [.ref 4]) (m_EX_warm E N xs) hM rfl kw_X8_107 rfl (s_rect a b ha hb) rfl (Nat.le_of_ble_eq_true rfl) (Nat.le_of_ble_eq_true rfl) (Nat.le_of_ble_eq_true rfl) (fun ht => ⟨ht, Nat.le_refl _⟩) ?_
  refine m_J_run hM 1 rfl ⟨trivial, trivial⟩ ?_
  refine m_callV (as := [.long (k_rc a b), .int (nI u)]) (rest := []) (m_EX_warm E N xs) hM rfl kw_X8_119 rfl rfl (rfl) ⟨_, rfl, rfl⟩ (l_putSoil (k_U_LD (se := false))) rfl (Nat.le_of_ble_eq_true rfl) (Nat.le_of_ble_eq_true rfl) (Nat.le_of_ble_eq_true rfl) (fun ht => ⟨ht, by simp⟩) ?_
  exact m_vret hM rfl rfl (Nat.le_of_ble_eq_true rfl) (Nat.le_of_ble_eq_true rfl) (rfl)
set_option maxHeartbeats 2000000 in
theorem x_soil_1 (hl : l.stackTraces = false) {x y v : Int32} (hx : x < 0 ∨ ¬ x < nI 60) : m_Dx l (m_EX E N xs) E mM_X8_soil (d + 1) 1 6 [.ref 0, .int x, .int y, .int v] (k_U fr gt pn yr wg se sw n g rp rq f so nx pl mL qL mS qS sb cnt fd bw F sqs bu wb o) tg "java/lang/IndexOutOfBoundsException" (k_U fr gt pn yr wg se sw n g rp rq f so nx pl mL qL mS qS sb cnt fd bw F sqs bu wb o) := by
  have hM := mM_X8_soil_ok
  refine m_Sp_of (by decide) (Nat.le_of_ble_eq_true rfl) ?_
  refine m_J_run hM 1 rfl ⟨trivial, trivial⟩ ?_
  exact m_callSx (as := [.int x]) (rest := []) (m_EX_warm E N xs) hM rfl kw_X8_94 rfl (x_cs_x hl hx) rfl (Nat.le_of_ble_eq_true rfl) (Nat.le_of_ble_eq_true rfl) (Nat.le_of_ble_eq_true rfl) rfl (⟨rfl, rfl⟩)
set_option maxHeartbeats 2000000 in
theorem x_soil_2 (hl : l.stackTraces = false) {a : Nat} {x v : Int32} (ha : a < 60) (hx : x < 0 ∨ ¬ x < nI 60) : m_Dx l (m_EX E N xs) E mM_X8_soil (d + 1) 1 6 [.ref 0, .int (nI a), .int x, .int v] (k_U fr gt pn yr wg se sw n g rp rq f so nx pl mL qL mS qS sb cnt fd bw F sqs bu wb o) tg "java/lang/IndexOutOfBoundsException" (k_U fr gt pn yr wg se sw n g rp rq f so nx pl mL qL mS qS sb cnt fd bw F sqs bu wb o) := by
  have hM := mM_X8_soil_ok
  refine m_Sp_of (by decide) (Nat.le_of_ble_eq_true rfl) ?_
  refine m_J_run hM 1 rfl ⟨trivial, trivial⟩ ?_
  refine m_callS (as := [.int (nI a)]) (rest := []) (m_EX_warm E N xs) hM rfl kw_X8_94 rfl (x_cs ha) rfl (Nat.le_of_ble_eq_true rfl) (Nat.le_of_ble_eq_true rfl) (Nat.le_of_ble_eq_true rfl) (fun ht => ⟨ht, Nat.le_refl _⟩) ?_
  refine m_J_run hM 1 rfl ⟨trivial, trivial⟩ ?_
  exact m_callSx (as := [.int x]) (rest := []) (m_EX_warm E N xs) hM rfl kw_X8_94 rfl (x_cs_x hl hx) rfl (Nat.le_of_ble_eq_true rfl) (Nat.le_of_ble_eq_true rfl) (Nat.le_of_ble_eq_true rfl) rfl (⟨rfl, rfl⟩)
set_option maxHeartbeats 2000000 in
theorem x_soil_3 (hl : l.stackTraces = false) {a b : Nat} {x : Int32} (ha : a < 60) (hb : b < 60) (hx : x < 0 ∨ ¬ x ≤ nI 9) : m_Dx l (m_EX E N xs) E mM_X8_soil (d + 1) 1 6 [.ref 0, .int (nI a), .int (nI b), .int x] (k_U fr gt pn yr wg se sw n g rp rq f so nx pl mL qL mS qS sb cnt fd bw F sqs bu wb o) tg "java/lang/IllegalArgumentException" (k_U fr gt pn yr wg se sw n g rp rq f so nx pl mL qL mS qS sb cnt fd bw F sqs bu wb o) := by
  have hM := mM_X8_soil_ok
  refine m_Sp_of (by decide) (Nat.le_of_ble_eq_true rfl) ?_
  refine m_J_run hM 1 rfl ⟨trivial, trivial⟩ ?_
  refine m_callS (as := [.int (nI a)]) (rest := []) (m_EX_warm E N xs) hM rfl kw_X8_94 rfl (x_cs ha) rfl (Nat.le_of_ble_eq_true rfl) (Nat.le_of_ble_eq_true rfl) (Nat.le_of_ble_eq_true rfl) (fun ht => ⟨ht, Nat.le_refl _⟩) ?_
  refine m_J_run hM 1 rfl ⟨trivial, trivial⟩ ?_
  refine m_callS (as := [.int (nI b)]) (rest := []) (m_EX_warm E N xs) hM rfl kw_X8_94 rfl (x_cs hb) rfl (Nat.le_of_ble_eq_true rfl) (Nat.le_of_ble_eq_true rfl) (Nat.le_of_ble_eq_true rfl) (fun ht => ⟨ht, Nat.le_refl _⟩) ?_
  refine m_J_run hM 2 rfl ⟨trivial, trivial, trivial⟩ ?_
  refine m_J_if (fun hc => ?_) (fun hc => ?_)
  · exact m_J_throw (si := 2) (nm := "java/lang/IllegalArgumentException") (rest := []) hl hM rfl rfl rfl rfl rfl rfl rfl kt_IA (Nat.le_of_ble_eq_true rfl) (Nat.le_of_ble_eq_true rfl) (Nat.le_of_ble_eq_true rfl) ⟨rfl, rfl⟩
  refine m_J_run hM 3 rfl ⟨trivial, trivial, trivial, trivial⟩ ?_
  refine m_J_if (fun hc2 => absurd hc2 (hx.resolve_left hc)) (fun _ => ?_)
  exact m_J_throw (si := 2) (nm := "java/lang/IllegalArgumentException") (rest := []) hl hM rfl rfl rfl rfl rfl rfl rfl kt_IA (Nat.le_of_ble_eq_true rfl) (Nat.le_of_ble_eq_true rfl) (Nat.le_of_ble_eq_true rfl) ⟨rfl, rfl⟩
set_option maxHeartbeats 2000000 in
theorem x_free {a : Nat} {b : Bool} (ha : a < 60) (h1 : k_has fr a ≠ b) (h2 : b = true → k_pc fr < nI 5) : m_Dt l (m_EX E N xs) E mM_X8_free (d + 2) 0 0 [.ref 0, .int (nI a), .int (k_z b)] (k_U fr gt pn yr wg se sw n g rp rq f so nx pl mL qL mS qS sb cnt fd bw F sqs bu wb o) tg (some (.int (nI 1))) (k_U (fr ^^^ k_only a) gt pn yr wg (false) sw n g rp rq f so nx pl mL qL mS qS sb cnt fd bw F sqs bu wb o) tg := by
  have hM := mM_X8_free_ok
  refine m_Sp_of (by decide) (Nat.le_of_ble_eq_true rfl) ?_
  refine m_J_run hM 1 rfl ⟨trivial, trivial⟩ ?_
  refine m_callS (as := [.int (nI a)]) (rest := []) (m_EX_warm E N xs) hM rfl kw_X8_94 rfl (x_cs ha) rfl (Nat.le_of_ble_eq_true rfl) (Nat.le_of_ble_eq_true rfl) (Nat.le_of_ble_eq_true rfl) (fun ht => ⟨ht, Nat.le_refl _⟩) ?_
  refine m_J_run hM 1 rfl ⟨trivial, trivial⟩ ?_
  refine m_J_getf hM rfl rfl (rfl) (rfl) ?_
  refine m_J_run hM 1 rfl ⟨trivial, trivial⟩ ?_
  refine m_callS (as := [.long fr, .int (nI a)]) (rest := []) (m_EX_warm E N xs) hM rfl kw_X8_123 rfl (s_has fr a) rfl (Nat.le_of_ble_eq_true rfl) (Nat.le_of_ble_eq_true rfl) (Nat.le_of_ble_eq_true rfl) (fun ht => ⟨ht, Nat.le_refl _⟩) ?_
  refine m_J_run hM 2 rfl ⟨trivial, trivial, trivial⟩ ?_
  refine m_J_if (fun _ => ?_) (fun hc => absurd (by cases hb : k_has fr a <;> cases b <;> first | decide | exact absurd hb h1) hc)
  refine m_J_join (S2 := (35, [some (.ref 0), some (.int (nI a)), some (.int (k_z b))], [], (k_U fr gt pn yr wg se sw n g rp rq f so nx pl mL qL mS qS sb cnt fd bw F sqs bu wb o))) ?_ ?_
  · intro hJ
    refine m_J_run hM 2 rfl ⟨trivial, trivial, trivial⟩ ?_
    cases b with
    | false =>
      refine m_J_if (fun _ => ?_) (fun hc => absurd (rfl) hc)
      exact hJ
    | true =>
      refine m_J_if (fun hc => absurd hc (by decide)) (fun _ => ?_)
      refine m_J_run hM 1 rfl ⟨trivial, trivial⟩ ?_
      refine m_J_getf hM rfl rfl (rfl) (rfl) ?_
      refine m_callS (as := [.long fr]) (rest := []) (m_EX_warm E N xs) hM rfl kw_X8_127 rfl (s_pc fr) rfl (Nat.le_of_ble_eq_true rfl) (Nat.le_of_ble_eq_true rfl) (Nat.le_of_ble_eq_true rfl) (fun ht => ⟨ht, Nat.le_refl _⟩) ?_
      refine m_J_run hM 2 rfl ⟨trivial, trivial, trivial⟩ ?_
      refine m_J_if (fun _ => ?_) (fun hc => absurd (h2 rfl) hc)
      exact hJ
  refine m_J_run hM 2 rfl ⟨trivial, trivial, trivial⟩ ?_
  refine m_J_putf hM rfl rfl (rfl) (rfl) ?_
  refine m_J_run hM 2 rfl ⟨trivial, trivial, trivial⟩ ?_
  refine m_J_getf hM rfl rfl (rfl) (rfl) ?_
  refine m_J_run hM 1 rfl ⟨trivial, trivial⟩ ?_
  refine m_callS (as := [.int (nI a)]) (rest := [.long fr, .ref 0]) (m_EX_warm E N xs) hM rfl kw_X8_133 rfl (s_only a) rfl (Nat.le_of_ble_eq_true rfl) (Nat.le_of_ble_eq_true rfl) (Nat.le_of_ble_eq_true rfl) (fun ht => ⟨ht, Nat.le_refl _⟩) ?_
  refine m_J_run hM 1 rfl ⟨trivial, trivial⟩ ?_
  refine m_J_putf hM rfl rfl (rfl) (rfl) ?_
  refine m_J_run hM 1 rfl ⟨trivial, trivial⟩ ?_
  exact m_iret hM rfl rfl (by decide) (Nat.le_of_ble_eq_true rfl) (Nat.le_of_ble_eq_true rfl) (rfl) (rfl)
set_option maxHeartbeats 2000000 in
theorem x_free_n {a : Nat} {b : Bool} (ha : a < 60) (hx : k_has fr a = b ∨ (b = true ∧ ¬ k_pc fr < nI 5)) : m_Dt l (m_EX E N xs) E mM_X8_free (d + 2) 0 0 [.ref 0, .int (nI a), .int (k_z b)] (k_U fr gt pn yr wg se sw n g rp rq f so nx pl mL qL mS qS sb cnt fd bw F sqs bu wb o) tg (some (.int (nI 0))) (k_U fr gt pn yr wg se sw n g rp rq f so nx pl mL qL mS qS sb cnt fd bw F sqs bu wb o) tg := by
  have hM := mM_X8_free_ok
  refine m_Sp_of (by decide) (Nat.le_of_ble_eq_true rfl) ?_
  refine m_J_run hM 1 rfl ⟨trivial, trivial⟩ ?_
  refine m_callS (as := [.int (nI a)]) (rest := []) (m_EX_warm E N xs) hM rfl kw_X8_94 rfl (x_cs ha) rfl (Nat.le_of_ble_eq_true rfl) (Nat.le_of_ble_eq_true rfl) (Nat.le_of_ble_eq_true rfl) (fun ht => ⟨ht, Nat.le_refl _⟩) ?_
  refine m_J_run hM 1 rfl ⟨trivial, trivial⟩ ?_
  refine m_J_getf hM rfl rfl (rfl) (rfl) ?_
  refine m_J_run hM 1 rfl ⟨trivial, trivial⟩ ?_
  refine m_callS (as := [.long fr, .int (nI a)]) (rest := []) (m_EX_warm E N xs) hM rfl kw_X8_123 rfl (s_has fr a) rfl (Nat.le_of_ble_eq_true rfl) (Nat.le_of_ble_eq_true rfl) (Nat.le_of_ble_eq_true rfl) (fun ht => ⟨ht, Nat.le_refl _⟩) ?_
  refine m_J_run hM 2 rfl ⟨trivial, trivial, trivial⟩ ?_
  by_cases h1 : k_has fr a = b
  · refine m_J_if (fun hc => absurd hc (fun q => q (by rw [h1]))) (fun _ => ?_)
    refine m_J_run hM 1 rfl ⟨trivial, trivial⟩ ?_
    exact m_iret hM rfl rfl (by decide) (Nat.le_of_ble_eq_true rfl) (Nat.le_of_ble_eq_true rfl) (rfl) (rfl)
  have h2 := hx.resolve_left h1
  obtain ⟨rfl, h3⟩ := h2
  refine m_J_if (fun _ => ?_) (fun hc => absurd (by rw [Bool.eq_false_iff.mpr h1]; decide) hc)
  refine m_J_run hM 2 rfl ⟨trivial, trivial, trivial⟩ ?_
  refine m_J_if (fun hc => absurd hc (by decide)) (fun _ => ?_)
  refine m_J_run hM 1 rfl ⟨trivial, trivial⟩ ?_
  refine m_J_getf hM rfl rfl (rfl) (rfl) ?_
  refine m_callS (as := [.long fr]) (rest := []) (m_EX_warm E N xs) hM rfl kw_X8_127 rfl (s_pc fr) rfl (Nat.le_of_ble_eq_true rfl) (Nat.le_of_ble_eq_true rfl) (Nat.le_of_ble_eq_true rfl) (fun ht => ⟨ht, Nat.le_refl _⟩) ?_
  refine m_J_run hM 2 rfl ⟨trivial, trivial, trivial⟩ ?_
  refine m_J_if (fun hc => absurd hc (h3)) (fun _ => ?_)
  refine m_J_run hM 1 rfl ⟨trivial, trivial⟩ ?_
  exact m_iret hM rfl rfl (by decide) (Nat.le_of_ble_eq_true rfl) (Nat.le_of_ble_eq_true rfl) (rfl) (rfl)
set_option maxHeartbeats 2000000 in
theorem x_free_1 (hl : l.stackTraces = false) {x y : Int32} (hx : x < 0 ∨ ¬ x < nI 60) : m_Dx l (m_EX E N xs) E mM_X8_free (d + 1) 1 6 [.ref 0, .int x, .int y] (k_U fr gt pn yr wg se sw n g rp rq f so nx pl mL qL mS qS sb cnt fd bw F sqs bu wb o) tg "java/lang/IndexOutOfBoundsException" (k_U fr gt pn yr wg se sw n g rp rq f so nx pl mL qL mS qS sb cnt fd bw F sqs bu wb o) := by
  have hM := mM_X8_free_ok
  refine m_Sp_of (by decide) (Nat.le_of_ble_eq_true rfl) ?_
  refine m_J_run hM 1 rfl ⟨trivial, trivial⟩ ?_
  exact m_callSx (as := [.int x]) (rest := []) (m_EX_warm E N xs) hM rfl kw_X8_94 rfl (x_cs_x hl hx) rfl (Nat.le_of_ble_eq_true rfl) (Nat.le_of_ble_eq_true rfl) (Nat.le_of_ble_eq_true rfl) rfl (⟨rfl, rfl⟩)
set_option maxHeartbeats 2000000 in
theorem x_gate {a : Nat} (ha : a < 60) : m_Dt l (m_EX E N xs) E mM_X8_gate (d + 1) 0 0 [.ref 0, .int (nI a)] (k_U fr gt pn yr wg se sw n g rp rq f so nx pl mL qL mS qS sb cnt fd bw F sqs bu wb o) tg (none) (k_U fr (a) pn yr wg se sw n g rp rq f so nx pl mL qL mS qS sb cnt fd bw F sqs bu wb o) tg := by
  have hM := mM_X8_gate_ok
  refine m_Sp_of (by decide) (Nat.le_of_ble_eq_true rfl) ?_
  refine m_J_run hM 1 rfl ⟨trivial, trivial⟩ ?_
  refine m_callS (as := [.int (nI a)]) (rest := []) (m_EX_warm E N xs) hM rfl kw_X8_94 rfl (x_cs ha) rfl (Nat.le_of_ble_eq_true rfl) (Nat.le_of_ble_eq_true rfl) (Nat.le_of_ble_eq_true rfl) (fun ht => ⟨ht, Nat.le_refl _⟩) ?_
  refine m_J_run hM 2 rfl ⟨trivial, trivial, trivial⟩ ?_
  refine m_J_putf hM rfl rfl (rfl) (rfl) ?_
  exact m_vret hM rfl rfl (Nat.le_of_ble_eq_true rfl) (Nat.le_of_ble_eq_true rfl) (rfl)
set_option maxHeartbeats 2000000 in
theorem x_gate_1 (hl : l.stackTraces = false) {x : Int32} (hx : x < 0 ∨ ¬ x < nI 60) : m_Dx l (m_EX E N xs) E mM_X8_gate (d + 1) 1 6 [.ref 0, .int x] (k_U fr gt pn yr wg se sw n g rp rq f so nx pl mL qL mS qS sb cnt fd bw F sqs bu wb o) tg "java/lang/IndexOutOfBoundsException" (k_U fr gt pn yr wg se sw n g rp rq f so nx pl mL qL mS qS sb cnt fd bw F sqs bu wb o) := by
  have hM := mM_X8_gate_ok
  refine m_Sp_of (by decide) (Nat.le_of_ble_eq_true rfl) ?_
  refine m_J_run hM 1 rfl ⟨trivial, trivial⟩ ?_
  exact m_callSx (as := [.int x]) (rest := []) (m_EX_warm E N xs) hM rfl kw_X8_94 rfl (x_cs_x hl hx) rfl (Nat.le_of_ble_eq_true rfl) (Nat.le_of_ble_eq_true rfl) (Nat.le_of_ble_eq_true rfl) rfl (⟨rfl, rfl⟩)
set_option maxHeartbeats 2000000 in
theorem x_book (hn : n ≤ 400) (hm : mS ≤ 14) (hq : ∀ i, i < 14 → k_lok (qS i)) (hw : (k_ri g n qS).2.1.2 = -nI 1) : m_Dt l (m_EX E N xs) E mM_X8_book (d + 9) 0 0 [.ref 0] (k_U fr gt pn yr wg se sw n g rp rq f so nx pl mL qL mS qS sb cnt fd bw F sqs bu wb o) tg (some (.int (nI (k_ri g n qS).1))) (k_U fr gt pn yr (-nI 1) (false) (!sw) (0) g ((k_ri g n qS).2.1.1) ((k_ri g n qS).2.1.2) f so nx pl ((k_ri g n qS).1) ((k_ri g n qS).2.2) (mL) (qL) sb cnt fd bw F sqs bu wb o) tg := by
  have hM := mM_X8_book_ok
  refine m_Sp_of (by decide) (Nat.le_of_ble_eq_true rfl) ?_
  refine m_J_run hM 2 rfl ⟨trivial, trivial, trivial⟩ ?_
  refine m_J_getf hM rfl rfl (rfl) (rfl) ?_
  refine m_J_run hM 1 rfl ⟨trivial, trivial⟩ ?_
  refine m_J_getf hM rfl rfl (rfl) (rfl) ?_
  refine m_J_callV (as := [.ref (bif sw then 30 else 46)]) (rest := [.ref 0]) (m_EX_warm E N xs) hM rfl kw_X8_137 rfl rfl rfl rfl ⟨_, rfl, rfl⟩ (Nat.le_of_ble_eq_true rfl) (Nat.le_of_ble_eq_true rfl) (Nat.le_of_ble_eq_true rfl) (t_into (R := (rp, rq)) (fun i j _ _ e => by have e2 : (bif sw then 31 else 47) + 1 + i = (bif sw then 31 else 47) + 1 + j := e; omega) (k_U_BS hm hq) (k_U_TP hn)) (fun v9 h9 tg9 hp9 => ?_) (fun nm h9 hp => hp.elim)
  obtain ⟨rfl, rfl, p1, p2, p3⟩ := hp9
  refine ⟨fun ht => ⟨ht, by rw [p3.1]; exact Nat.le_refl _⟩, ?_⟩
  have e9 : h9 = (k_U fr gt pn yr wg se sw n g ((k_ri g n qS).2.1.1) ((k_ri g n qS).2.1.2) f so nx pl mL qL ((k_ri g n qS).1) ((k_ri g n qS).2.2) sb cnt fd bw F sqs bu wb o) := by
    have p4 := k_fr_set p3 p1.1
    have p5 := k_fr_set p4 p2.1
    replace p5 : k_fr [(bif sw then 31 else 47) + 1 + 0, (bif sw then 31 else 47) + 1 + 1, (bif sw then 31 else 47) + 1 + 2, (bif sw then 31 else 47) + 1 + 3, (bif sw then 31 else 47) + 1 + 4, (bif sw then 31 else 47) + 1 + 5, (bif sw then 31 else 47) + 1 + 6, (bif sw then 31 else 47) + 1 + 7, (bif sw then 31 else 47) + 1 + 8, (bif sw then 31 else 47) + 1 + 9, (bif sw then 31 else 47) + 1 + 10, (bif sw then 31 else 47) + 1 + 11, (bif sw then 31 else 47) + 1 + 12, (bif sw then 31 else 47) + 1 + 13] _ _ := p5
    replace p5 := k_fr_set p5 (p2.2.2.1 0 (by omega))
    replace p5 := k_fr_set p5 (p2.2.2.1 1 (by omega))
    replace p5 := k_fr_set p5 (p2.2.2.1 2 (by omega))
    replace p5 := k_fr_set p5 (p2.2.2.1 3 (by omega))
    replace p5 := k_fr_set p5 (p2.2.2.1 4 (by omega))
    replace p5 := k_fr_set p5 (p2.2.2.1 5 (by omega))
    replace p5 := k_fr_set p5 (p2.2.2.1 6 (by omega))
    replace p5 := k_fr_set p5 (p2.2.2.1 7 (by omega))
    replace p5 := k_fr_set p5 (p2.2.2.1 8 (by omega))
    replace p5 := k_fr_set p5 (p2.2.2.1 9 (by omega))
    replace p5 := k_fr_set p5 (p2.2.2.1 10 (by omega))
    replace p5 := k_fr_set p5 (p2.2.2.1 11 (by omega))
    replace p5 := k_fr_set p5 (p2.2.2.1 12 (by omega))
    replace p5 := k_fr_set p5 (p2.2.2.1 13 (by omega))
    rw [k_fr_nil p5]
    cases sw <;> rfl
  subst e9
  clear p1 p2 p3
  refine m_J_putf hM rfl rfl (rfl) (rfl) ?_
  refine m_J_run hM 1 rfl ⟨trivial, trivial⟩ ?_
  refine m_J_getf hM rfl rfl (rfl) (rfl) ?_
  refine m_J_run hM 1 rfl ⟨trivial, trivial⟩ ?_
  refine m_J_putf hM rfl rfl (rfl) (rfl) ?_
  refine m_J_run hM 1 rfl ⟨trivial, trivial⟩ ?_
  refine m_J_getf hM rfl rfl (rfl) (rfl) ?_
  refine m_J_run hM 2 rfl ⟨trivial, trivial, trivial⟩ ?_
  refine m_J_if (fun _ => ?_) (fun hc => absurd (hw) hc)
  refine m_J_run hM 1 rfl ⟨trivial, trivial⟩ ?_
  refine m_J_getf hM rfl rfl (rfl) (rfl) ?_
  refine m_J_run hM 3 rfl ⟨trivial, trivial, trivial, trivial⟩ ?_
  refine m_J_getf hM rfl rfl (rfl) (rfl) ?_
  refine m_J_putf hM rfl rfl (rfl) (rfl) ?_
  refine m_J_run hM 2 rfl ⟨trivial, trivial, trivial⟩ ?_
  refine m_J_putf hM rfl rfl (rfl) (rfl) ?_
  refine m_J_run hM 2 rfl ⟨trivial, trivial, trivial⟩ ?_
  refine m_J_putf hM rfl rfl (rfl) (rfl) ?_
  refine m_J_run hM 1 rfl ⟨trivial, trivial⟩ ?_
  refine m_J_getf hM rfl rfl (rfl) (rfl) ?_
  refine m_J_eqH (H' := (k_U fr gt pn yr (-nI 1) (false) (!sw) (0) g ((k_ri g n qS).2.1.1) ((k_ri g n qS).2.1.2) f so nx pl ((k_ri g n qS).1) ((k_ri g n qS).2.2) (mL) (qL) sb cnt fd bw F sqs bu wb o)) ?_ ?_
  · rw [hw]; cases sw <;> rfl
  refine m_J_getf hM rfl rfl ((by cases sw <;> rfl : (k_U fr gt pn yr (-nI 1) (false) (!sw) (0) g ((k_ri g n qS).2.1.1) ((k_ri g n qS).2.1.2) f so nx pl ((k_ri g n qS).1) ((k_ri g n qS).2.2) (mL) (qL) sb cnt fd bw F sqs bu wb o)[(bif sw then 30 else 46)]? = some (.inr (0, [.ref (bif sw then 31 else 47), .int (nI (k_ri g n qS).1)])))) (rfl) ?_
  exact m_iret hM rfl rfl rfl (Nat.le_of_ble_eq_true rfl) (Nat.le_of_ble_eq_true rfl) (rfl) (rfl)
set_option maxHeartbeats 2000000 in
theorem x_book_x (hl : l.stackTraces = false) (hn : n ≤ 400) (hm : mS ≤ 14) (hq : ∀ i, i < 14 → k_lok (qS i)) (hw : (k_ri g n qS).2.1.2 ≠ -nI 1) : m_Dx l (m_EX E N xs) E mM_X8_book (d + 9) 1 6 [.ref 0] (k_U fr gt pn yr wg se sw n g rp rq f so nx pl mL qL mS qS sb cnt fd bw F sqs bu wb o) tg "java/lang/IllegalArgumentException" (k_U fr gt pn yr ((k_ri g n qS).2.1.2) se sw (0) g ((k_ri g n qS).2.1.1) ((k_ri g n qS).2.1.2) f so nx pl mL qL ((k_ri g n qS).1) ((k_ri g n qS).2.2) sb cnt fd bw F sqs bu wb o) := by
  have hM := mM_X8_book_ok
  refine m_Sp_of (by decide) (Nat.le_of_ble_eq_true rfl) ?_
  refine m_J_run hM 2 rfl ⟨trivial, trivial, trivial⟩ ?_
  refine m_J_getf hM rfl rfl (rfl) (rfl) ?_
  refine m_J_run hM 1 rfl ⟨trivial, trivial⟩ ?_
  refine m_J_getf hM rfl rfl (rfl) (rfl) ?_
  refine m_J_callV (as := [.ref (bif sw then 30 else 46)]) (rest := [.ref 0]) (m_EX_warm E N xs) hM rfl kw_X8_137 rfl rfl rfl rfl ⟨_, rfl, rfl⟩ (Nat.le_of_ble_eq_true rfl) (Nat.le_of_ble_eq_true rfl) (Nat.le_of_ble_eq_true rfl) (t_into (R := (rp, rq)) (fun i j _ _ e => by have e2 : (bif sw then 31 else 47) + 1 + i = (bif sw then 31 else 47) + 1 + j := e; omega) (k_U_BS hm hq) (k_U_TP hn)) (fun v9 h9 tg9 hp9 => ?_) (fun nm h9 hp => hp.elim)
  obtain ⟨rfl, rfl, p1, p2, p3⟩ := hp9
  refine ⟨fun ht => ⟨ht, by rw [p3.1]; exact Nat.le_refl _⟩, ?_⟩
  have e9 : h9 = (k_U fr gt pn yr wg se sw n g ((k_ri g n qS).2.1.1) ((k_ri g n qS).2.1.2) f so nx pl mL qL ((k_ri g n qS).1) ((k_ri g n qS).2.2) sb cnt fd bw F sqs bu wb o) := by
    have p4 := k_fr_set p3 p1.1
    have p5 := k_fr_set p4 p2.1
    replace p5 : k_fr [(bif sw then 31 else 47) + 1 + 0, (bif sw then 31 else 47) + 1 + 1, (bif sw then 31 else 47) + 1 + 2, (bif sw then 31 else 47) + 1 + 3, (bif sw then 31 else 47) + 1 + 4, (bif sw then 31 else 47) + 1 + 5, (bif sw then 31 else 47) + 1 + 6, (bif sw then 31 else 47) + 1 + 7, (bif sw then 31 else 47) + 1 + 8, (bif sw then 31 else 47) + 1 + 9, (bif sw then 31 else 47) + 1 + 10, (bif sw then 31 else 47) + 1 + 11, (bif sw then 31 else 47) + 1 + 12, (bif sw then 31 else 47) + 1 + 13] _ _ := p5
    replace p5 := k_fr_set p5 (p2.2.2.1 0 (by omega))
    replace p5 := k_fr_set p5 (p2.2.2.1 1 (by omega))
    replace p5 := k_fr_set p5 (p2.2.2.1 2 (by omega))
    replace p5 := k_fr_set p5 (p2.2.2.1 3 (by omega))
    replace p5 := k_fr_set p5 (p2.2.2.1 4 (by omega))
    replace p5 := k_fr_set p5 (p2.2.2.1 5 (by omega))
    replace p5 := k_fr_set p5 (p2.2.2.1 6 (by omega))
    replace p5 := k_fr_set p5 (p2.2.2.1 7 (by omega))
    replace p5 := k_fr_set p5 (p2.2.2.1 8 (by omega))
    replace p5 := k_fr_set p5 (p2.2.2.1 9 (by omega))
    replace p5 := k_fr_set p5 (p2.2.2.1 10 (by omega))
    replace p5 := k_fr_set p5 (p2.2.2.1 11 (by omega))
    replace p5 := k_fr_set p5 (p2.2.2.1 12 (by omega))
    replace p5 := k_fr_set p5 (p2.2.2.1 13 (by omega))
    rw [k_fr_nil p5]
    cases sw <;> rfl
  subst e9
  clear p1 p2 p3
  refine m_J_putf hM rfl rfl (rfl) (rfl) ?_
  refine m_J_run hM 1 rfl ⟨trivial, trivial⟩ ?_
  refine m_J_getf hM rfl rfl (rfl) (rfl) ?_
  refine m_J_run hM 1 rfl ⟨trivial, trivial⟩ ?_
  refine m_J_putf hM rfl rfl (rfl) (rfl) ?_
  refine m_J_run hM 1 rfl ⟨trivial, trivial⟩ ?_
  refine m_J_getf hM rfl rfl (rfl) (rfl) ?_
  refine m_J_run hM 2 rfl ⟨trivial, trivial, trivial⟩ ?_
  refine m_J_if (fun hc => absurd hc (hw)) (fun _ => ?_)
  exact m_J_throw (si := 19) (nm := "java/lang/IllegalArgumentException") (rest := []) hl hM rfl rfl rfl rfl rfl rfl rfl kt_IA (Nat.le_of_ble_eq_true rfl) (Nat.le_of_ble_eq_true rfl) (Nat.le_of_ble_eq_true rfl) ⟨rfl, rfl⟩
set_option maxHeartbeats 2000000 in
theorem x_fault  : m_Dt l (m_EX E N xs) E mM_X8_fault d 0 0 [.ref 0] (k_U fr gt pn yr wg se sw n g rp rq f so nx pl mL qL mS qS sb cnt fd bw F sqs bu wb o) tg (some (.int wg)) (k_U fr gt pn yr wg se sw n g rp rq f so nx pl mL qL mS qS sb cnt fd bw F sqs bu wb o) tg := by
  have hM := mM_X8_fault_ok
  refine m_Sp_of (by decide) (Nat.le_of_ble_eq_true rfl) ?_
  refine m_J_run hM 1 rfl ⟨trivial, trivial⟩ ?_
  refine m_J_getf hM rfl rfl (rfl) (rfl) ?_
  exact m_iret hM rfl rfl rfl (Nat.le_of_ble_eq_true rfl) (Nat.le_of_ble_eq_true rfl) (rfl) (rfl)
set_option maxHeartbeats 2000000 in
theorem x_worth (hm : mL ≤ 14) (hq : ∀ i, i < 14 → k_lok (qL i)) : m_Dt l (m_EX E N xs) E mM_X8_worth (d + 5) 0 0 [.ref 0] (k_U fr gt pn yr wg se sw n g rp rq f so nx pl mL qL mS qS sb cnt fd bw F sqs bu wb o) tg (some (.int (k_sum (fun i => k_lw (qL i) f so) mL))) (k_U fr gt pn yr wg se sw n g rp rq f so nx pl mL qL mS qS sb cnt fd bw F sqs bu wb o) tg := by
  have hM := mM_X8_worth_ok
  refine m_Sp_of (by decide) (Nat.le_of_ble_eq_true rfl) ?_
  refine m_J_run hM 1 rfl ⟨trivial, trivial⟩ ?_
  refine m_J_getf hM rfl rfl (rfl) (rfl) ?_
  refine m_J_run hM 1 rfl ⟨trivial, trivial⟩ ?_
  refine m_J_getf hM rfl rfl (rfl) (rfl) ?_
  refine m_callV (as := [.ref 4]) (rest := []) (m_EX_warm E N xs) hM rfl kw_X8_146 rfl rfl (k_U_cnt.1) ⟨_, rfl, rfl⟩ (b_worth (k_U_BL hm hq) k_U_LD) rfl (Nat.le_of_ble_eq_true rfl) (Nat.le_of_ble_eq_true rfl) (Nat.le_of_ble_eq_true rfl) (fun ht => ⟨ht, by simp⟩) ?_
  exact m_iret hM rfl rfl rfl (Nat.le_of_ble_eq_true rfl) (Nat.le_of_ble_eq_true rfl) (rfl) (rfl)
set_option maxHeartbeats 2000000 in
theorem x_broken (hm : mL ≤ 14) (hq : ∀ i, i < 14 → k_lok (qL i)) : m_Dt l (m_EX E N xs) E mM_X8_broken (d + 6) 0 0 [.ref 0] (k_U fr gt pn yr wg se sw n g rp rq f so nx pl mL qL mS qS sb cnt fd bw F sqs bu wb o) tg (some (.int (k_fb qL f mL 0))) (k_U fr gt pn yr wg se sw n g rp rq f so nx pl mL qL mS qS sb cnt fd bw F sqs bu wb o) tg := by
  have hM := mM_X8_broken_ok
  refine m_Sp_of (by decide) (Nat.le_of_ble_eq_true rfl) ?_
  refine m_J_run hM 1 rfl ⟨trivial, trivial⟩ ?_
  refine m_J_getf hM rfl rfl (rfl) (rfl) ?_
  refine m_J_run hM 1 rfl ⟨trivial, trivial⟩ ?_
  refine m_J_getf hM rfl rfl (rfl) (rfl) ?_
  refine m_callV (as := [.ref 4]) (rest := []) (m_EX_warm E N xs) hM rfl kw_X8_160 rfl rfl (k_U_cnt.1) ⟨_, rfl, rfl⟩ (b_first (k_U_BL hm hq) k_U_LD) rfl (Nat.le_of_ble_eq_true rfl) (Nat.le_of_ble_eq_true rfl) (Nat.le_of_ble_eq_true rfl) (fun ht => ⟨ht, by simp⟩) ?_
  exact m_iret hM rfl rfl rfl (Nat.le_of_ble_eq_true rfl) (Nat.le_of_ble_eq_true rfl) (rfl) (rfl)
set_option maxHeartbeats 2000000 in
theorem x_adds {a : Nat} (ha : a < mL) (hm : mL ≤ 14) (hq : ∀ i, i < 14 → k_lok (qL i)) : m_Dt l (m_EX E N xs) E mM_X8_adds (d + 4) 0 0 [.ref 0, .int (nI a)] (k_U fr gt pn yr wg se sw n g rp rq f so nx pl mL qL mS qS sb cnt fd bw F sqs bu wb o) tg (some (.int (k_lw (qL a) f so))) (k_U fr gt pn yr wg se sw n g rp rq f so nx pl mL qL mS qS sb cnt fd bw F sqs bu wb o) tg := by
  have hM := mM_X8_adds_ok
  refine m_Sp_of (by decide) (Nat.le_of_ble_eq_true rfl) ?_
  refine m_J_run hM 2 rfl ⟨trivial, trivial, trivial⟩ ?_
  refine m_callV (as := [.int (nI a)]) (rest := []) (m_EX_warm E N xs) hM rfl kw_X8_150 rfl rfl (rfl) ⟨_, rfl, rfl⟩ (x_checkLine ha (by omega)) rfl (Nat.le_of_ble_eq_true rfl) (Nat.le_of_ble_eq_true rfl) (Nat.le_of_ble_eq_true rfl) (fun ht => ⟨ht, by simp⟩) ?_
  refine m_J_run hM 1 rfl ⟨trivial, trivial⟩ ?_
  refine m_J_getf hM rfl rfl (rfl) (rfl) ?_
  refine m_J_getf hM rfl rfl (k_U_cnt.1) (rfl) ?_
  refine m_J_run hM 1 rfl ⟨trivial, trivial⟩ ?_
  refine m_aaldN hM rfl ((k_U_BL hm hq).2.1) rfl (if_pos (show a < 14 by omega)) (by omega) (by omega) ?_
  refine m_J_run hM 1 rfl ⟨trivial, trivial⟩ ?_
  refine m_J_getf hM rfl rfl (rfl) (rfl) ?_
  refine m_callV (as := [.ref 4]) (rest := []) (m_EX_warm E N xs) hM rfl kw_X8_157 rfl rfl ((k_U_BL hm hq).2.2.1 a (by omega)) ⟨_, rfl, rfl⟩ (i_worth (hq a (by omega)) ((k_U_BL hm hq).2.2.1 a (by omega)) k_U_LD) rfl (Nat.le_of_ble_eq_true rfl) (Nat.le_of_ble_eq_true rfl) (Nat.le_of_ble_eq_true rfl) (fun ht => ⟨ht, by simp⟩) ?_
  exact m_iret hM rfl rfl rfl (Nat.le_of_ble_eq_true rfl) (Nat.le_of_ble_eq_true rfl) (rfl) (rfl)
set_option maxHeartbeats 2000000 in
theorem x_adds_x (hl : l.stackTraces = false) {x : Int32} (hx : x < 0 ∨ ¬ x < nI mL) : m_Dx l (m_EX E N xs) E mM_X8_adds (d + 1) 1 6 [.ref 0, .int x] (k_U fr gt pn yr wg se sw n g rp rq f so nx pl mL qL mS qS sb cnt fd bw F sqs bu wb o) tg "java/lang/IndexOutOfBoundsException" (k_U fr gt pn yr wg se sw n g rp rq f so nx pl mL qL mS qS sb cnt fd bw F sqs bu wb o) := by
  have hM := mM_X8_adds_ok
  refine m_Sp_of (by decide) (Nat.le_of_ble_eq_true rfl) ?_
  refine m_J_run hM 2 rfl ⟨trivial, trivial, trivial⟩ ?_
  exact m_callVx (as := [.int x]) (rest := []) (m_EX_warm E N xs) hM rfl kw_X8_150 rfl rfl (rfl) ⟨_, rfl, rfl⟩ (x_checkLine_x hl hx) rfl (Nat.le_of_ble_eq_true rfl) (Nat.le_of_ble_eq_true rfl) (Nat.le_of_ble_eq_true rfl) rfl (⟨rfl, rfl⟩)
def k_yr (q : Nat → kL) (m : Nat) : Nat → (Nat → Int64) × (Nat → Int64) × Nat → (Nat → Int64) × (Nat → Int64) × Nat
  | 0, S => S
  | k + 1, S => if S.2.2 < 1000 then k_yr q m k (k_upto (k_g60 q S.1 (k_upto S.1 S.2.1 5) m 60) S.1 5, k_g60 q S.1 (k_upto S.1 S.2.1 5) m 60, S.2.2 + 1) else S
set_option maxHeartbeats 2000000 in
theorem x_years {a : Nat} (ha : a ≤ 20) (hy : yr ≤ 1000) (hm : mL ≤ 14) (hq : ∀ i, i < 14 → k_lok (qL i)) : m_Dt l (m_EX E N xs) E mM_X8_years (d + 4) 0 0 [.ref 0, .int (nI a)] (k_U fr gt pn yr wg se sw n g rp rq f so nx pl mL qL mS qS sb cnt fd bw F sqs bu wb o) tg (some (.int (nI (k_yr qL mL a (f, nx, yr)).2.2))) (k_U fr gt pn ((k_yr qL mL a (f, nx, yr)).2.2) wg (false) sw n g rp rq ((k_yr qL mL a (f, nx, yr)).1) so ((k_yr qL mL a (f, nx, yr)).2.1) pl mL qL mS qS sb cnt fd bw F sqs bu wb o) tg := by
  have hM := mM_X8_years_ok
  refine m_Sp_of (by decide) (Nat.le_of_ble_eq_true rfl) ?_
  refine m_J_run hM 2 rfl ⟨trivial, trivial, trivial⟩ ?_
  refine m_J_if (fun hc => absurd hc (nI_pos (by omega))) (fun _ => ?_)
  refine m_J_run hM 3 rfl ⟨trivial, trivial, trivial, trivial⟩ ?_
  refine m_J_if (fun _ => ?_) (fun hc => absurd (nI_le ha (by omega)) hc)
  refine m_J_run hM 2 rfl ⟨trivial, trivial, trivial⟩ ?_
  refine m_J_putf hM rfl rfl (rfl) (rfl) ?_
  refine m_J_run hM 2 rfl ⟨trivial, trivial, trivial⟩ ?_
  have loop : ∀ (k i : Nat) (S : (Nat → Int64) × (Nat → Int64) × Nat), i + k = a → S.2.2 ≤ 1000 → k_yr qL mL k S = (k_yr qL mL a (f, nx, yr)) → m_J l (m_EX E N xs) E mM_X8_years (d + 4) 0 0 (m_K (some (.int (nI (k_yr qL mL a (f, nx, yr)).2.2))) (k_U fr gt pn ((k_yr qL mL a (f, nx, yr)).2.2) wg (false) sw n g rp rq ((k_yr qL mL a (f, nx, yr)).1) so ((k_yr qL mL a (f, nx, yr)).2.1) pl mL qL mS qS sb cnt fd bw F sqs bu wb o) tg) m_no tg 0 0 (27, [some (.ref 0), some (.int (nI a)), some (.int (nI i))], [], (k_U fr gt pn (S.2.2) wg (false) sw n g rp rq (S.1) so (S.2.1) pl mL qL mS qS sb cnt fd bw F sqs bu wb o)) := by
    intro k
    induction k with
    | zero =>
      intro i S hi hS he
      rw [k_yr] at he
      have e : i = a := by omega
      subst e
      refine m_J_run hM 3 rfl ⟨trivial, trivial, trivial, trivial⟩ ?_
      refine m_J_if (fun _ => ?_) (fun hc => absurd (nI_le (Nat.le_refl _) (by omega)) hc)
      refine m_J_run hM 1 rfl ⟨trivial, trivial⟩ ?_
      refine m_J_getf hM rfl rfl (rfl) (rfl) ?_
      rw [← he]
      exact m_iret hM rfl rfl rfl (Nat.le_of_ble_eq_true rfl) (Nat.le_of_ble_eq_true rfl) (rfl) (rfl)
    | succ k ih =>
      intro i S hi hS he
      rw [k_yr] at he
      refine m_J_run hM 3 rfl ⟨trivial, trivial, trivial, trivial⟩ ?_
      refine m_J_if (fun hc => absurd hc (nI_ge (by omega) (by omega))) (fun _ => ?_)
      refine m_J_run hM 1 rfl ⟨trivial, trivial⟩ ?_
      refine m_J_getf hM rfl rfl (rfl) (rfl) ?_
      refine m_J_run hM 2 rfl ⟨trivial, trivial, trivial⟩ ?_
      by_cases hlt : S.2.2 < 1000
      · refine m_J_if (fun hc => absurd hc (nI_ge hlt (by omega))) (fun _ => ?_)
        rw [if_pos hlt] at he
        refine m_J_run hM 1 rfl ⟨trivial, trivial⟩ ?_
        refine m_J_getf hM rfl rfl (rfl) (rfl) ?_
        refine m_J_run hM 1 rfl ⟨trivial, trivial⟩ ?_
        refine m_J_getf hM rfl rfl (rfl) (rfl) ?_
        refine m_J_run hM 1 rfl ⟨trivial, trivial⟩ ?_
        refine m_J_getf hM rfl rfl (rfl) (rfl) ?_
        refine m_callV (as := [.ref 15, .ref 4]) (rest := []) (m_EX_warm E N xs) hM rfl kw_X8_165 rfl rfl (k_U_cnt.1) ⟨_, rfl, rfl⟩ (b_grow (b2 := 16) (g := S.2.1) (k_U_BL hm hq) (k_U_LD (f := S.1) (nx := S.2.1) (yr := S.2.2) (se := false)) rfl rfl (by decide)) rfl (Nat.le_of_ble_eq_true rfl) (Nat.le_of_ble_eq_true rfl) (Nat.le_of_ble_eq_true rfl) (fun ht => ⟨ht, by simp⟩) ?_
        refine m_J_eqH (H' := (k_U fr gt pn (S.2.2) wg (false) sw n g rp rq (S.1) so (k_g60 qL S.1 (k_upto S.1 S.2.1 5) mL 60) pl mL qL mS qS sb cnt fd bw F sqs bu wb o)) rfl ?_
        refine m_J_run hM 1 rfl ⟨trivial, trivial⟩ ?_
        refine m_J_getf hM rfl rfl (rfl) (rfl) ?_
        refine m_J_getf hM rfl rfl (rfl) (rfl) ?_
        refine m_J_run hM 1 rfl ⟨trivial, trivial⟩ ?_
        refine m_J_getf hM rfl rfl (rfl) (rfl) ?_
        refine m_callV (as := [.ref 15]) (rest := []) (m_EX_warm E N xs) hM rfl kw_X8_169 rfl rfl (rfl) ⟨_, rfl, rfl⟩ (u_become (b := 6) (b' := 16) (f := S.1) (g := k_g60 qL S.1 (k_upto S.1 S.2.1 5) mL 60) rfl rfl rfl rfl (by decide)) rfl (Nat.le_of_ble_eq_true rfl) (Nat.le_of_ble_eq_true rfl) (Nat.le_of_ble_eq_true rfl) (fun ht => ⟨ht, by simp⟩) ?_
        refine m_J_run hM 2 rfl ⟨trivial, trivial, trivial⟩ ?_
        refine m_J_getf hM rfl rfl (rfl) (rfl) ?_
        refine m_J_run hM 2 rfl ⟨trivial, trivial, trivial⟩ ?_
        refine m_J_putf hM rfl rfl (rfl) (rfl) ?_
        refine m_J_run hM 2 rfl ⟨trivial, trivial, trivial⟩ ?_
        rw [← k_succ i]
        refine m_J_eqH (H' := (k_U fr gt pn (S.2.2 + 1) wg (false) sw n g rp rq (k_upto (k_g60 qL S.1 (k_upto S.1 S.2.1 5) mL 60) S.1 5) so (k_g60 qL S.1 (k_upto S.1 S.2.1 5) mL 60) pl mL qL mS qS sb cnt fd bw F sqs bu wb o)) (by rw [← k_succ S.2.2]; rfl) ?_
        exact ih (i + 1) (k_upto (k_g60 qL S.1 (k_upto S.1 S.2.1 5) mL 60) S.1 5, k_g60 qL S.1 (k_upto S.1 S.2.1 5) mL 60, S.2.2 + 1) (by omega) hlt he
      · refine m_J_if (fun _ => ?_) (fun hc => absurd (nI_le (by omega) (by omega)) hc)
        rw [if_neg hlt] at he
        refine m_J_run hM 1 rfl ⟨trivial, trivial⟩ ?_
        refine m_J_getf hM rfl rfl (rfl) (rfl) ?_
        rw [← he]
        exact m_iret hM rfl rfl rfl (Nat.le_of_ble_eq_true rfl) (Nat.le_of_ble_eq_true rfl) (rfl) (rfl)
  exact loop a 0 (f, nx, yr) (by omega) hy rfl
set_option maxHeartbeats 2000000 in
theorem x_years_x (hl : l.stackTraces = false) {x : Int32} (hx : x < 0 ∨ ¬ x ≤ nI 20) : m_Dx l (m_EX E N xs) E mM_X8_years d 1 6 [.ref 0, .int x] (k_U fr gt pn yr wg se sw n g rp rq f so nx pl mL qL mS qS sb cnt fd bw F sqs bu wb o) tg "java/lang/IllegalArgumentException" (k_U fr gt pn yr wg se sw n g rp rq f so nx pl mL qL mS qS sb cnt fd bw F sqs bu wb o) := by
  have hM := mM_X8_years_ok
  refine m_Sp_of (by decide) (Nat.le_of_ble_eq_true rfl) ?_
  refine m_J_run hM 2 rfl ⟨trivial, trivial, trivial⟩ ?_
  refine m_J_if (fun hc => ?_) (fun hc => ?_)
  · exact m_J_throw (si := 21) (nm := "java/lang/IllegalArgumentException") (rest := []) hl hM rfl rfl rfl rfl rfl rfl rfl kt_IA (Nat.le_of_ble_eq_true rfl) (Nat.le_of_ble_eq_true rfl) (Nat.le_of_ble_eq_true rfl) ⟨rfl, rfl⟩
  refine m_J_run hM 3 rfl ⟨trivial, trivial, trivial, trivial⟩ ?_
  refine m_J_if (fun hc2 => absurd hc2 (hx.resolve_left hc)) (fun _ => ?_)
  exact m_J_throw (si := 21) (nm := "java/lang/IllegalArgumentException") (rest := []) hl hM rfl rfl rfl rfl rfl rfl rfl kt_IA (Nat.le_of_ble_eq_true rfl) (Nat.le_of_ble_eq_true rfl) (Nat.le_of_ble_eq_true rfl) ⟨rfl, rfl⟩
end
