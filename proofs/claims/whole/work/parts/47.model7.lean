/-! THE MODEL: holds, broken, others, weighs (written by wip/gen_model7.py) -/
def k_ba4 (i j a b : Nat) : Nat := ((5 * i + j) * 5 + a) * 5 + b
theorem k_ba4_inj {i j a b i' j' a' b' : Nat} (h1 : j < 5) (h2 : a < 5) (h3 : b < 5) (h1' : j' < 5) (h2' : a' < 5) (h3' : b' < 5) (h : k_ba4 i j a b = k_ba4 i' j' a' b') : i = i' ∧ j = j' ∧ a = a' ∧ b = b' := by unfold k_ba4 at h; omega
def y_oi (aK aO aT aW aS : Nat → Int32) (fz : Nat → Bool) (u : Nat → Int32) (c : Int32) (k s : Nat) : Nat → Int32
  | 0 => c
  | t + 1 => if fz t then y_oi aK aO aT aW aS fz u c k s t else y_oi aK aO aT aW aS fz u c k s t + y_pr aK aO aT aW aS k s t (u s) (u t)
def y_os (aK aO aT aW aS so : Nat → Int32) (fz : Nat → Bool) (u : Nat → Int32) (c : Int32) (k : Nat) : Nat → Int32
  | 0 => c
  | s + 1 => if fz s then y_os aK aO aT aW aS so fz u c k s else y_oi aK aO aT aW aS fz u (y_os aK aO aT aW aS so fz u c k s + y_al aK aO aW aS so k s (u s)) k s s
def y_ot (aK aO aT aW aS so : Nat → Int32) (fz : Nat → Bool) (u : Nat → Int32) : Nat → Int32
  | 0 => nI 0
  | k + 1 => y_os aK aO aT aW aS so fz u (y_ot aK aO aT aW aS so fz u k) k 60
def y_s1 (aK aO aT aW aS : Nat → Int32) (fz : Nat → Bool) (u : Nat → Int32) (c : Int32) (k p v : Nat) : Nat → Int32
  | 0 => c
  | t + 1 => if fz t then y_s1 aK aO aT aW aS fz u c k p v t else y_s1 aK aO aT aW aS fz u c k p v t + y_pr aK aO aT aW aS k p t (nI v) (u t)
def y_s0 (aK aO aT aW aS so : Nat → Int32) (fz : Nat → Bool) (u : Nat → Int32) (p v : Nat) : Nat → Int32
  | 0 => nI 0
  | k + 1 => y_s1 aK aO aT aW aS fz u (y_s0 aK aO aT aW aS so fz u p v k + y_al aK aO aW aS so k p (nI v)) k p v 60
def y_b0 (aK aO aT aW aS : Nat → Int32) (p r v w : Nat) : Nat → Int32
  | 0 => nI 0
  | k + 1 => y_b0 aK aO aT aW aS p r v w k + y_pr aK aO aT aW aS k p r (nI v) (nI w)
def y_pp (fz : Nat → Bool) (pL : Nat → Nat) : Nat → (Nat → Nat)
  | 0 => pL
  | s + 1 => if fz s then k_uI (y_pp fz pL s) (fb_ct fz s) s else y_pp fz pL s
theorem y_pp_lt (fz : Nat → Bool) (pL : Nat → Nat) : ∀ s i, i < fb_ct fz s → y_pp fz pL s i < s ∧ fz (y_pp fz pL s i) = true ∧ fb_ct fz (y_pp fz pL s i) = i := by
  intro s
  induction s with
  | zero => intro i hi; exact absurd hi (by rw [show fb_ct fz 0 = 0 from rfl]; omega)
  | succ s ih =>
    intro i hi
    rw [fb_ct_succ] at hi
    rw [y_pp]
    cases hf : fz s with
    | true =>
      rw [hf] at hi
      simp only [if_true] at hi ⊢
      unfold k_uI
      by_cases e : i = fb_ct fz s
      · rw [if_pos e]; exact ⟨by omega, hf, e.symm⟩
      · rw [if_neg e]
        have := ih i (by omega)
        exact ⟨by omega, this.2⟩
    | false =>
      rw [hf] at hi
      simp only [Bool.false_eq_true, if_false] at hi ⊢
      have := ih i (by omega)
      exact ⟨by omega, this.2⟩
def y_sgI (S : Nat → Nat → Int32) (q : Nat → Int32) (i v : Nat) : Prop := ∀ a b, a < 5 → 1 ≤ b → b < 5 → (a < i ∨ (a = i ∧ b < v)) → q (5 * a + b) = S a b
def y_boI (B : Nat → Nat → Nat → Nat → Int32) (q : Nat → Int32) (i v j w : Nat) : Prop := ∀ a b c e, a < 5 → b < a → 1 ≤ c → c < 5 → 1 ≤ e → e < 5 → (a < i ∨ (a = i ∧ (c < v ∨ (c = v ∧ (b < j ∨ (b = j ∧ e < w)))))) → q (k_ba4 a b c e) = B a b c e
theorem y_sgI_s {S : Nat → Nat → Int32} {q : Nat → Int32} {i v : Nat} (h : y_sgI S q i v) (hv : v < 5) : y_sgI S (upd q (5 * i + v) (S i v)) i (v + 1) := by
  intro a b ha hb1 hb hc
  by_cases e : a = i ∧ b = v
  · rw [e.1, e.2, pk_us]
  · rw [pk_un (by omega)]
    exact h a b ha hb1 hb (by omega)
theorem y_boI_s {B : Nat → Nat → Nat → Nat → Int32} {q : Nat → Int32} {i v j w : Nat} (h : y_boI B q i v j w) (hv : v < 5) (hj : j < 5) (hw : w < 5) : y_boI B (upd q (k_ba4 i j v w) (B i j v w)) i v j (w + 1) := by
  intro a b c e ha hb hc1 hc he1 he hx
  by_cases e9 : a = i ∧ b = j ∧ c = v ∧ e = w
  · rw [e9.1, e9.2.1, e9.2.2.1, e9.2.2.2, pk_us]
  · rw [pk_un (fun r => e9 (k_ba4_inj (by omega) hc he hj hv hw r))]
    exact h a b c e ha hb hc1 hc he1 he (by omega)
section
variable {l : Launch} {E : mE} {N : Nat} {xs : Nat → Int32} {d : Nat} {tg : Bool} {Z : mH} {h : mH}
variable {th : Int32} {u : Nat → Int32} {so : Nat → Int32} {fz : Nat → Bool} {fs : Nat} {gt : Nat} {yr : Nat} {aK : Nat → Int32} {aO : Nat → Int32} {aT : Nat → Int32} {aH : Nat → Int32} {aW : Nat → Int32} {aS : Nat → Int32} {aL : Nat → Int32} {ls : Nat} {pl : Nat → Int32} {ps : Nat} {tp : Nat → Int32} {td : Nat} {pt : Nat} {en : Nat} {bg : Nat} {fa : Int32} {fv : Nat → Int32} {mt : Nat → Bool} {nx : Nat → Int32} {pL : Nat → Nat} {sg : Nat → Int32} {bo : Nat → Int32} {wa : Nat → Int32} {gv : Nat → Int32} {bw : Int32} {of : Nat → Int32} {o : mH}
set_option maxHeartbeats 2000000 in
theorem y_holds (hZ : Z.length = 70) {k j : Nat} (hk : k < 28) (hj : j ≤ 6) (hK : aK k = nI j) : m_Sp l (m_EX E N xs) E mM_X9_holds (d + 2) 0 0 [.ref 70, .int (nI k)] (Z ++ k_M th u so fz fs gt yr aK aO aT aH aW aS aL ls pl ps tp td pt en bg fa fv mt nx pL sg bo wa gv bw of o) tg (fun v H tg' => tg' = tg ∧ (v = some (.int (k_z (y_hb j aO aT aS aL u k))) ∧ ∃ q : Nat → Bool, H = (Z ++ k_M th u so fz fs gt yr aK aO aT aH aW aS aL ls pl ps tp td pt en bg fa fv q nx pL sg bo wa gv bw of o))) m_no := by
  have hM := mM_X9_holds_ok
  refine m_Sp_of (by decide) (Nat.le_of_ble_eq_true rfl) ?_
  refine m_J_run hM 1 rfl ⟨trivial, trivial⟩ ?_
  refine m_J_getf hM rfl rfl (kZ hZ 0 rfl) (rfl) ?_
  refine m_J_run hM 1 rfl ⟨trivial, trivial⟩ ?_
  refine m_ialdN hM rfl (kZ hZ 4 rfl) (by omega) (by omega) ?_
  rw [hK]
  match j, hj with
  | 0, _ =>
    refine m_J_run hM 1 rfl ⟨by decide, trivial⟩ ?_
    refine m_J_run hM 1 rfl ⟨trivial, trivial⟩ ?_
    exact m_J_iret hM rfl rfl (by decide) (Nat.le_of_ble_eq_true rfl) (Nat.le_of_ble_eq_true rfl) (⟨rfl, rfl, _, rfl⟩)
  | 1, _ =>
    refine m_J_run hM 1 rfl ⟨by decide, trivial⟩ ?_
    refine m_J_run hM 1 rfl ⟨trivial, trivial⟩ ?_
    exact m_J_iret hM rfl rfl (by decide) (Nat.le_of_ble_eq_true rfl) (Nat.le_of_ble_eq_true rfl) (⟨rfl, rfl, _, rfl⟩)
  | 2, _ =>
    refine m_J_run hM 1 rfl ⟨by decide, trivial⟩ ?_
    refine m_J_run hM 2 rfl ⟨trivial, trivial, trivial⟩ ?_
    refine m_cV1 hZ hM rfl kw_X9_232 rfl rfl rfl (y_areApart hZ (by omega)) rfl (Nat.le_of_ble_eq_true rfl) ?_
    exact m_J_iret hM rfl rfl (k_z_nar _) (Nat.le_of_ble_eq_true rfl) (Nat.le_of_ble_eq_true rfl) (⟨rfl, rfl, _, rfl⟩)
  | 3, _ =>
    refine m_J_run hM 1 rfl ⟨by decide, trivial⟩ ?_
    refine m_J_run hM 2 rfl ⟨trivial, trivial, trivial⟩ ?_
    refine m_J_getf hM rfl rfl (kZ hZ 0 rfl) (rfl) ?_
    refine m_J_run hM 1 rfl ⟨trivial, trivial⟩ ?_
    refine m_ialdN hM rfl (kZ hZ 5 rfl) (by omega) (by omega) ?_
    refine m_cV1 hZ hM rfl kw_X9_235 rfl rfl rfl (y_count hZ) rfl (Nat.le_of_ble_eq_true rfl) ?_
    refine m_J_run hM 1 rfl ⟨trivial, trivial⟩ ?_
    refine m_J_getf hM rfl rfl (kZ hZ 0 rfl) (rfl) ?_
    refine m_J_run hM 1 rfl ⟨trivial, trivial⟩ ?_
    refine m_ialdN hM rfl (kZ hZ 10 rfl) (by omega) (by omega) ?_
    refine m_J_run hM 1 rfl ⟨trivial, trivial⟩ ?_
    refine m_J_if (fun h5 => ?_) (fun h5 => ?_)
    ·
      refine m_J_run hM 1 rfl ⟨trivial, trivial⟩ ?_
      exact m_J_iret hM rfl rfl (by decide) (Nat.le_of_ble_eq_true rfl) (Nat.le_of_ble_eq_true rfl) (⟨rfl, by rw [show y_hb 3 aO aT aS aL u k = false from by rw [y_hb, decide_eq_true h5]; rfl]; rfl, _, rfl⟩)
    ·
      refine m_J_run hM 2 rfl ⟨trivial, trivial, trivial⟩ ?_
      exact m_J_iret hM rfl rfl (by decide) (Nat.le_of_ble_eq_true rfl) (Nat.le_of_ble_eq_true rfl) (⟨rfl, by rw [show y_hb 3 aO aT aS aL u k = true from by rw [y_hb, decide_eq_false h5]; rfl]; rfl, _, rfl⟩)
  | 4, _ =>
    refine m_J_run hM 1 rfl ⟨by decide, trivial⟩ ?_
    refine m_J_run hM 2 rfl ⟨trivial, trivial, trivial⟩ ?_
    refine m_J_getf hM rfl rfl (kZ hZ 0 rfl) (rfl) ?_
    refine m_J_run hM 1 rfl ⟨trivial, trivial⟩ ?_
    refine m_ialdN hM rfl (kZ hZ 5 rfl) (by omega) (by omega) ?_
    refine m_cV1 hZ hM rfl kw_X9_235 rfl rfl rfl (y_count hZ) rfl (Nat.le_of_ble_eq_true rfl) ?_
    refine m_J_run hM 1 rfl ⟨trivial, trivial⟩ ?_
    refine m_J_getf hM rfl rfl (kZ hZ 0 rfl) (rfl) ?_
    refine m_J_run hM 1 rfl ⟨trivial, trivial⟩ ?_
    refine m_ialdN hM rfl (kZ hZ 10 rfl) (by omega) (by omega) ?_
    refine m_J_run hM 1 rfl ⟨trivial, trivial⟩ ?_
    refine m_J_if (fun h5 => ?_) (fun h5 => ?_)
    ·
      refine m_J_run hM 1 rfl ⟨trivial, trivial⟩ ?_
      exact m_J_iret hM rfl rfl (by decide) (Nat.le_of_ble_eq_true rfl) (Nat.le_of_ble_eq_true rfl) (⟨rfl, by rw [show y_hb 4 aO aT aS aL u k = false from by rw [y_hb, decide_eq_true h5]; rfl]; rfl, _, rfl⟩)
    ·
      refine m_J_run hM 2 rfl ⟨trivial, trivial, trivial⟩ ?_
      exact m_J_iret hM rfl rfl (by decide) (Nat.le_of_ble_eq_true rfl) (Nat.le_of_ble_eq_true rfl) (⟨rfl, by rw [show y_hb 4 aO aT aS aL u k = true from by rw [y_hb, decide_eq_false h5]; rfl]; rfl, _, rfl⟩)
  | 5, _ =>
    refine m_J_run hM 1 rfl ⟨by decide, trivial⟩ ?_
    refine m_J_run hM 2 rfl ⟨trivial, trivial, trivial⟩ ?_
    refine m_J_getf hM rfl rfl (kZ hZ 0 rfl) (rfl) ?_
    refine m_J_run hM 1 rfl ⟨trivial, trivial⟩ ?_
    refine m_ialdN hM rfl (kZ hZ 5 rfl) (by omega) (by omega) ?_
    refine m_cVp1 hZ hM rfl kw_X9_238 rfl rfl rfl (y_areJoined hZ) (Nat.le_of_ble_eq_true rfl) (fun v9 h9 hp9 => ?_)
    obtain ⟨rfl, q72, rfl⟩ := hp9
    refine ⟨k_le rfl, ?_⟩
    exact m_J_iret hM rfl rfl (k_z_nar _) (Nat.le_of_ble_eq_true rfl) (Nat.le_of_ble_eq_true rfl) (⟨rfl, rfl, _, rfl⟩)
  | 6, _ =>
    refine m_J_run hM 1 rfl ⟨by decide, trivial⟩ ?_
    refine m_J_run hM 1 rfl ⟨trivial, trivial⟩ ?_
    exact m_J_iret hM rfl rfl (by decide) (Nat.le_of_ble_eq_true rfl) (Nat.le_of_ble_eq_true rfl) (⟨rfl, rfl, _, rfl⟩)
  | j + 7, hj => exact absurd hj (by omega)
set_option maxHeartbeats 2000000 in
theorem y_broken (hZ : Z.length = 70) {K : Nat → Nat} (hls : ls ≤ 14) (hK : ∀ k, k < ls → K k ≤ 6 ∧ aK k = nI (K k)) : m_Sp l (m_EX E N xs) E mM_X9_broken (d + 3) 0 0 [.ref 70] (Z ++ k_M th u so fz fs gt yr aK aO aT aH aW aS aL ls pl ps tp td pt en bg fa fv mt nx pL sg bo wa gv bw of o) tg (fun v H tg' => tg' = tg ∧ (v = some (.int (y_fb (fun k => y_hb (K k) aO aT aS aL u k) ls 0)) ∧ ∃ q : Nat → Bool, H = (Z ++ k_M (nI 0) u so fz fs gt yr aK aO aT aH aW aS aL ls pl ps tp td pt en bg fa fv q nx pL sg bo wa gv bw of o))) m_no := by
  have hM := mM_X9_broken_ok
  refine m_Sp_of (by decide) (Nat.le_of_ble_eq_true rfl) ?_
  refine m_J_run hM 2 rfl ⟨trivial, trivial, trivial⟩ ?_
  refine m_J_putf hM rfl rfl (kZ hZ 0 rfl) (rfl) ?_
  refine m_J_eqH (H' := (Z ++ k_M (nI 0) u so fz fs gt yr aK aO aT aH aW aS aL ls pl ps tp td pt en bg fa fv mt nx pL sg bo wa gv bw of o)) (kZs hZ 0 rfl) ?_
  refine m_J_run hM 2 rfl ⟨trivial, trivial, trivial⟩ ?_
  have LP : ∀ (n9 i : Nat) (q : Nat → Bool), i + n9 = ls → y_fb (fun k => y_hb (K k) aO aT aS aL u k) ls 0 = y_fb (fun k => y_hb (K k) aO aT aS aL u k) n9 i → m_J l (m_EX E N xs) E mM_X9_broken (d + 3) 0 0 (fun v H tg' => tg' = tg ∧ (v = some (.int (y_fb (fun k => y_hb (K k) aO aT aS aL u k) ls 0)) ∧ ∃ q : Nat → Bool, H = (Z ++ k_M (nI 0) u so fz fs gt yr aK aO aT aH aW aS aL ls pl ps tp td pt en bg fa fv q nx pL sg bo wa gv bw of o))) m_no tg 0 0 (7, [some (.ref 70), some (.int (nI i))], [], (Z ++ k_M (nI 0) u so fz fs gt yr aK aO aT aH aW aS aL ls pl ps tp td pt en bg fa fv q nx pL sg bo wa gv bw of o)) := by
    intro n9
    induction n9 with
    | zero =>
      intro i q hi h0
      have e9 : i = ls := by omega
      rw [e9] at h0 ⊢
      refine m_J_run hM 2 rfl ⟨trivial, trivial, trivial⟩ ?_
      refine m_J_getf hM rfl rfl (kZ hZ 0 rfl) (rfl) ?_
      refine m_J_run hM 1 rfl ⟨trivial, trivial⟩ ?_
      refine m_J_if (fun _ => ?_) (fun hc => absurd (nI_le (by omega) (by omega)) hc)
      refine m_J_run hM 1 rfl ⟨trivial, trivial⟩ ?_
      exact m_J_iret hM rfl rfl (rfl) (Nat.le_of_ble_eq_true rfl) (Nat.le_of_ble_eq_true rfl) (⟨rfl, by rw [h0]; rfl, _, rfl⟩)
    | succ n9 ih =>
      intro i q hi h0
      refine m_J_run hM 2 rfl ⟨trivial, trivial, trivial⟩ ?_
      refine m_J_getf hM rfl rfl (kZ hZ 0 rfl) (rfl) ?_
      refine m_J_run hM 1 rfl ⟨trivial, trivial⟩ ?_
      refine m_J_if (fun hc => absurd hc (nI_ge (by omega) (by omega))) (fun _ => ?_)
      refine m_J_run hM 2 rfl ⟨trivial, trivial, trivial⟩ ?_
      refine m_cVp1 hZ hM rfl kw_X9_241 rfl rfl rfl (y_holds hZ (by omega) (hK i (by omega)).1 (hK i (by omega)).2) (Nat.le_of_ble_eq_true rfl) (fun v9 h9 hp9 => ?_)
      obtain ⟨rfl, q109, rfl⟩ := hp9
      refine ⟨k_le rfl, ?_⟩
      cases h5 : y_hb (K i) aO aT aS aL u i with
      | false =>
        refine m_J_run hM 1 rfl ⟨trivial, trivial⟩ ?_
        refine m_J_if (fun hc => absurd hc (by decide)) (fun _ => ?_)
        refine m_J_run hM 1 rfl ⟨trivial, trivial⟩ ?_
        exact m_J_iret hM rfl rfl (rfl) (Nat.le_of_ble_eq_true rfl) (Nat.le_of_ble_eq_true rfl) (⟨rfl, by rw [h0, y_fb, h5]; rfl, _, rfl⟩)
      | true =>
        refine m_J_run hM 1 rfl ⟨trivial, trivial⟩ ?_
        refine m_J_if (fun _ => ?_) (fun hc => absurd (by decide) hc)
        refine m_J_run hM 2 rfl ⟨trivial, trivial, trivial⟩ ?_
        rw [nI_add i 1]
        have h9 := ih (i + 1) q109 (by omega) (by rw [h0, y_fb, h5]; rfl)
        exact h9
  exact LP ls 0 mt (by omega) rfl
set_option maxHeartbeats 2000000 in
theorem y_allHold (hZ : Z.length = 70) {x : Int32} {K : Nat → Nat} (hls : ls ≤ 14) (hK : ∀ k, k < ls → K k ≤ 6 ∧ aK k = nI (K k)) : m_Sp l (m_EX E N xs) E mM_X9_allHold (d + 3) 0 0 [.ref 70, .int x] (Z ++ k_M th u so fz fs gt yr aK aO aT aH aW aS aL ls pl ps tp td pt en bg fa fv mt nx pL sg bo wa gv bw of o) tg (fun v H tg' => tg' = tg ∧ (v = some (.int (k_z (k_all (fun k => decide (nI k = x) || y_hb (K k) aO aT aS aL u k) ls))) ∧ ∃ q : Nat → Bool, H = (Z ++ k_M th u so fz fs gt yr aK aO aT aH aW aS aL ls pl ps tp td pt en bg fa fv q nx pL sg bo wa gv bw of o))) m_no := by
  have hM := mM_X9_allHold_ok
  refine m_Sp_of (by decide) (Nat.le_of_ble_eq_true rfl) ?_
  refine m_J_run hM 2 rfl ⟨trivial, trivial, trivial⟩ ?_
  have LP : ∀ (n9 i : Nat) (q : Nat → Bool), i + n9 = ls → k_all (fun k => decide (nI k = x) || y_hb (K k) aO aT aS aL u k) i = true → m_J l (m_EX E N xs) E mM_X9_allHold (d + 3) 0 0 (fun v H tg' => tg' = tg ∧ (v = some (.int (k_z (k_all (fun k => decide (nI k = x) || y_hb (K k) aO aT aS aL u k) ls))) ∧ ∃ q : Nat → Bool, H = (Z ++ k_M th u so fz fs gt yr aK aO aT aH aW aS aL ls pl ps tp td pt en bg fa fv q nx pL sg bo wa gv bw of o))) m_no tg 0 0 (2, [some (.ref 70), some (.int x), some (.int (nI i))], [], (Z ++ k_M th u so fz fs gt yr aK aO aT aH aW aS aL ls pl ps tp td pt en bg fa fv q nx pL sg bo wa gv bw of o)) := by
    intro n9
    induction n9 with
    | zero =>
      intro i q hi h0
      have e9 : i = ls := by omega
      rw [e9] at h0 ⊢
      refine m_J_run hM 2 rfl ⟨trivial, trivial, trivial⟩ ?_
      refine m_J_getf hM rfl rfl (kZ hZ 0 rfl) (rfl) ?_
      refine m_J_run hM 1 rfl ⟨trivial, trivial⟩ ?_
      refine m_J_if (fun _ => ?_) (fun hc => absurd (nI_le (by omega) (by omega)) hc)
      refine m_J_run hM 1 rfl ⟨trivial, trivial⟩ ?_
      exact m_J_iret hM rfl rfl (by decide) (Nat.le_of_ble_eq_true rfl) (Nat.le_of_ble_eq_true rfl) (⟨rfl, by rw [h0]; rfl, _, rfl⟩)
    | succ n9 ih =>
      intro i q hi h0
      refine m_J_run hM 2 rfl ⟨trivial, trivial, trivial⟩ ?_
      refine m_J_getf hM rfl rfl (kZ hZ 0 rfl) (rfl) ?_
      refine m_J_run hM 1 rfl ⟨trivial, trivial⟩ ?_
      refine m_J_if (fun hc => absurd hc (nI_ge (by omega) (by omega))) (fun _ => ?_)
      refine m_J_run hM 2 rfl ⟨trivial, trivial, trivial⟩ ?_
      refine m_J_run hM 1 rfl ⟨trivial, trivial⟩ ?_
      refine m_J_if (fun h4 => ?_) (fun h4 => ?_)
      ·
        refine m_J_run hM 2 rfl ⟨trivial, trivial, trivial⟩ ?_
        rw [nI_add i 1]
        have h9 := ih (i + 1) q (by omega) (by rw [k_all, h0, decide_eq_true h4]; rfl)
        exact h9
      ·
        refine m_J_run hM 2 rfl ⟨trivial, trivial, trivial⟩ ?_
        refine m_cVp1 hZ hM rfl kw_X9_241 rfl rfl rfl (y_holds hZ (by omega) (hK i (by omega)).1 (hK i (by omega)).2) (Nat.le_of_ble_eq_true rfl) (fun v9 h9 hp9 => ?_)
        obtain ⟨rfl, q160, rfl⟩ := hp9
        refine ⟨k_le rfl, ?_⟩
        cases h5 : y_hb (K i) aO aT aS aL u i with
        | false =>
          refine m_J_run hM 1 rfl ⟨trivial, trivial⟩ ?_
          refine m_J_if (fun hc => absurd hc (by decide)) (fun _ => ?_)
          refine m_J_run hM 1 rfl ⟨trivial, trivial⟩ ?_
          exact m_J_iret hM rfl rfl (by decide) (Nat.le_of_ble_eq_true rfl) (Nat.le_of_ble_eq_true rfl) (⟨rfl, by rw [k_all_f (i := i) (by omega) (by rw [decide_eq_false h4, h5]; rfl)]; rfl, _, rfl⟩)
        | true =>
          refine m_J_run hM 1 rfl ⟨trivial, trivial⟩ ?_
          refine m_J_if (fun _ => ?_) (fun hc => absurd (by decide) hc)
          refine m_J_run hM 2 rfl ⟨trivial, trivial, trivial⟩ ?_
          rw [nI_add i 1]
          have h9 := ih (i + 1) q160 (by omega) (by rw [k_all, h0, h5, Bool.or_true]; rfl)
          exact h9
  exact LP ls 0 mt (by omega) rfl
set_option maxHeartbeats 2000000 in
theorem y_bothAt {i j a b : Nat} : m_Dt l (m_EX E N xs) E mM_X9_bothAt d 0 0 [.int (nI i), .int (nI j), .int (nI a), .int (nI b)] h tg (some (.int (nI (k_ba4 i j a b)))) h tg := by
  have hM := mM_X9_bothAt_ok
  refine m_Sp_of (by decide) (Nat.le_of_ble_eq_true rfl) ?_
  refine m_J_run hM 13 rfl ⟨trivial, trivial, trivial, trivial, trivial, trivial, trivial, trivial, trivial, trivial, trivial, trivial, trivial, trivial⟩ ?_
  rw [pk_mul 5 i, nI_add (5 * i) j, pk_mul ((5 * i) + j) 5, nI_add (((5 * i) + j) * 5) a, pk_mul ((((5 * i) + j) * 5) + a) 5, nI_add (((((5 * i) + j) * 5) + a) * 5) b]
  exact m_iret hM rfl rfl (rfl) (Nat.le_of_ble_eq_true rfl) (Nat.le_of_ble_eq_true rfl) (rfl) (rfl)
set_option maxHeartbeats 2000000 in
theorem y_others (hZ : Z.length = 70) (hls : ls ≤ 14) : m_Dt l (m_EX E N xs) E mM_X9_others (d + 2) 0 0 [.ref 70] (Z ++ k_M th u so fz fs gt yr aK aO aT aH aW aS aL ls pl ps tp td pt en bg fa fv mt nx pL sg bo wa gv bw of o) tg (some (.int (y_ot aK aO aT aW aS so fz u ls))) (Z ++ k_M th u so fz fs gt yr aK aO aT aH aW aS aL ls pl ps tp td pt en bg fa fv mt nx pL sg bo wa gv bw of o) tg := by
  have hM := mM_X9_others_ok
  refine m_Sp_of (by decide) (Nat.le_of_ble_eq_true rfl) ?_
  refine m_J_run hM 4 rfl ⟨trivial, trivial, trivial, trivial, trivial⟩ ?_
  have LP : ∀ (n9 k : Nat) (w3 : Option Value) (w4 : Option Value), k + n9 = ls → m_J l (m_EX E N xs) E mM_X9_others (d + 2) 0 0 (m_K (some (.int (y_ot aK aO aT aW aS so fz u ls))) (Z ++ k_M th u so fz fs gt yr aK aO aT aH aW aS aL ls pl ps tp td pt en bg fa fv mt nx pL sg bo wa gv bw of o) tg) m_no tg 0 0 (4, [some (.ref 70), some (.int (y_ot aK aO aT aW aS so fz u k)), some (.int (nI k)), w3, w4], [], (Z ++ k_M th u so fz fs gt yr aK aO aT aH aW aS aL ls pl ps tp td pt en bg fa fv mt nx pL sg bo wa gv bw of o)) := by
    intro n9
    induction n9 with
    | zero =>
      intro k w3 w4 hi 
      have e9 : k = ls := by omega
      rw [e9]
      refine m_J_run hM 2 rfl ⟨trivial, trivial, trivial⟩ ?_
      refine m_J_getf hM rfl rfl (kZ hZ 0 rfl) (rfl) ?_
      refine m_J_run hM 1 rfl ⟨trivial, trivial⟩ ?_
      refine m_J_if (fun _ => ?_) (fun hc => absurd (nI_le (by omega) (by omega)) hc)
      refine m_J_run hM 1 rfl ⟨trivial, trivial⟩ ?_
      exact m_iret hM rfl rfl (rfl) (Nat.le_of_ble_eq_true rfl) (Nat.le_of_ble_eq_true rfl) (rfl) (rfl)
    | succ n9 ih =>
      intro k w3 w4 hi 
      refine m_J_run hM 2 rfl ⟨trivial, trivial, trivial⟩ ?_
      refine m_J_getf hM rfl rfl (kZ hZ 0 rfl) (rfl) ?_
      refine m_J_run hM 1 rfl ⟨trivial, trivial⟩ ?_
      refine m_J_if (fun hc => absurd hc (nI_ge (by omega) (by omega))) (fun _ => ?_)
      refine m_J_run hM 2 rfl ⟨trivial, trivial, trivial⟩ ?_
      have LS : ∀ (s9 s : Nat) (w4 : Option Value), s + s9 = 60 → m_J l (m_EX E N xs) E mM_X9_others (d + 2) 0 0 (m_K (some (.int (y_ot aK aO aT aW aS so fz u ls))) (Z ++ k_M th u so fz fs gt yr aK aO aT aH aW aS aL ls pl ps tp td pt en bg fa fv mt nx pL sg bo wa gv bw of o) tg) m_no tg 0 0 (14, [some (.ref 70), some (.int (y_os aK aO aT aW aS so fz u (y_ot aK aO aT aW aS so fz u k) k s)), some (.int (nI k)), some (.int (nI s)), w4], [], (Z ++ k_M th u so fz fs gt yr aK aO aT aH aW aS aL ls pl ps tp td pt en bg fa fv mt nx pL sg bo wa gv bw of o)) := by
        intro s9
        induction s9 with
        | zero =>
          intro s w4 hs 
          have e9 : s = 60 := by omega
          rw [e9]
          refine m_J_run hM 3 rfl ⟨trivial, trivial, trivial, trivial⟩ ?_
          refine m_J_if (fun _ => ?_) (fun hc => absurd (nI_le (by omega) (by omega)) hc)
          refine m_J_run hM 2 rfl ⟨trivial, trivial, trivial⟩ ?_
          rw [nI_add k 1]
          have h9 := ih (k + 1) (some (.int (nI 60))) w4 (by omega)
          exact h9
        | succ s9 ihs =>
          intro s w4 hs 
          refine m_J_run hM 3 rfl ⟨trivial, trivial, trivial, trivial⟩ ?_
          refine m_J_if (fun hc => absurd hc (nI_ge (by omega) (by omega))) (fun _ => ?_)
          refine m_J_run hM 1 rfl ⟨trivial, trivial⟩ ?_
          refine m_J_getf hM rfl rfl (kZ hZ 0 rfl) (rfl) ?_
          refine m_J_run hM 1 rfl ⟨trivial, trivial⟩ ?_
          refine m_zaldN hM rfl (kZ hZ 3 rfl) (by omega) (by omega) ?_
          cases h4 : fz s with
          | false =>
            refine m_J_run hM 1 rfl ⟨trivial, trivial⟩ ?_
            refine m_J_if (fun _ => ?_) (fun hc => absurd (by decide) hc)
            refine m_J_run hM 5 rfl ⟨trivial, trivial, trivial, trivial, trivial, trivial⟩ ?_
            refine m_J_getf hM rfl rfl (kZ hZ 0 rfl) (rfl) ?_
            refine m_J_run hM 1 rfl ⟨trivial, trivial⟩ ?_
            refine m_ialdN hM rfl (kZ hZ 1 rfl) (by omega) (by omega) ?_
            refine m_cV3 hZ hM rfl kw_X9_215 rfl rfl rfl (y_alone hZ (by omega) (by omega)) rfl (Nat.le_of_ble_eq_true rfl) ?_
            refine m_J_run hM 4 rfl ⟨trivial, trivial, trivial, trivial, trivial⟩ ?_
            have LT : ∀ (t9 t : Nat), t + t9 = s → m_J l (m_EX E N xs) E mM_X9_others (d + 2) 0 0 (m_K (some (.int (y_ot aK aO aT aW aS so fz u ls))) (Z ++ k_M th u so fz fs gt yr aK aO aT aH aW aS aL ls pl ps tp td pt en bg fa fv mt nx pL sg bo wa gv bw of o) tg) m_no tg 0 0 (50, [some (.ref 70), some (.int (y_oi aK aO aT aW aS fz u (y_os aK aO aT aW aS so fz u (y_ot aK aO aT aW aS so fz u k) k s + y_al aK aO aW aS so k s (u s)) k s t)), some (.int (nI k)), some (.int (nI s)), some (.int (nI t))], [], (Z ++ k_M th u so fz fs gt yr aK aO aT aH aW aS aL ls pl ps tp td pt en bg fa fv mt nx pL sg bo wa gv bw of o)) := by
              intro t9
              induction t9 with
              | zero =>
                intro t  ht 
                have e9 : t = s := by omega
                rw [e9]
                refine m_J_run hM 3 rfl ⟨trivial, trivial, trivial, trivial⟩ ?_
                refine m_J_if (fun _ => ?_) (fun hc => absurd (nI_le (by omega) (by omega)) hc)
                refine m_J_run hM 2 rfl ⟨trivial, trivial, trivial⟩ ?_
                rw [nI_add s 1]
                have h9 := ihs (s + 1) (some (.int (nI s))) (by omega)
                rw [show y_os aK aO aT aW aS so fz u (y_ot aK aO aT aW aS so fz u k) k (s + 1) = y_oi aK aO aT aW aS fz u (y_os aK aO aT aW aS so fz u (y_ot aK aO aT aW aS so fz u k) k s + y_al aK aO aW aS so k s (u s)) k s s by rw [y_os, h4]; rfl] at h9
                exact h9
              | succ t9 iht =>
                intro t  ht 
                refine m_J_run hM 3 rfl ⟨trivial, trivial, trivial, trivial⟩ ?_
                refine m_J_if (fun hc => absurd hc (nI_ge (by omega) (by omega))) (fun _ => ?_)
                refine m_J_run hM 1 rfl ⟨trivial, trivial⟩ ?_
                refine m_J_getf hM rfl rfl (kZ hZ 0 rfl) (rfl) ?_
                refine m_J_run hM 1 rfl ⟨trivial, trivial⟩ ?_
                refine m_zaldN hM rfl (kZ hZ 3 rfl) (by omega) (by omega) ?_
                cases h5 : fz t with
                | false =>
                  refine m_J_run hM 1 rfl ⟨trivial, trivial⟩ ?_
                  refine m_J_if (fun hc => absurd hc (by decide)) (fun _ => ?_)
                  refine m_J_run hM 5 rfl ⟨trivial, trivial, trivial, trivial, trivial, trivial⟩ ?_
                  refine m_J_getf hM rfl rfl (kZ hZ 0 rfl) (rfl) ?_
                  refine m_J_run hM 1 rfl ⟨trivial, trivial⟩ ?_
                  refine m_ialdN hM rfl (kZ hZ 1 rfl) (by omega) (by omega) ?_
                  refine m_J_run hM 2 rfl ⟨trivial, trivial, trivial⟩ ?_
                  refine m_J_getf hM rfl rfl (kZ hZ 0 rfl) (rfl) ?_
                  refine m_J_run hM 1 rfl ⟨trivial, trivial⟩ ?_
                  refine m_ialdN hM rfl (kZ hZ 1 rfl) (by omega) (by omega) ?_
                  refine m_cV5 hZ hM rfl kw_X9_219 rfl rfl rfl (y_pair hZ (by omega) (by omega) (by omega)) rfl (Nat.le_of_ble_eq_true rfl) ?_
                  refine m_J_run hM 4 rfl ⟨trivial, trivial, trivial, trivial, trivial⟩ ?_
                  rw [nI_add t 1]
                  have h9 := iht (t + 1) (by omega)
                  rw [show y_oi aK aO aT aW aS fz u (y_os aK aO aT aW aS so fz u (y_ot aK aO aT aW aS so fz u k) k s + y_al aK aO aW aS so k s (u s)) k s (t + 1) = (y_oi aK aO aT aW aS fz u (y_os aK aO aT aW aS so fz u (y_ot aK aO aT aW aS so fz u k) k s + y_al aK aO aW aS so k s (u s)) k s t) + (y_pr aK aO aT aW aS k s t (u s) (u t)) by rw [y_oi, h5]; rfl] at h9
                  exact h9
                | true =>
                  refine m_J_run hM 1 rfl ⟨trivial, trivial⟩ ?_
                  refine m_J_if (fun _ => ?_) (fun hc => absurd (by decide) hc)
                  refine m_J_run hM 2 rfl ⟨trivial, trivial, trivial⟩ ?_
                  rw [nI_add t 1]
                  have h9 := iht (t + 1) (by omega)
                  rw [show y_oi aK aO aT aW aS fz u (y_os aK aO aT aW aS so fz u (y_ot aK aO aT aW aS so fz u k) k s + y_al aK aO aW aS so k s (u s)) k s (t + 1) = y_oi aK aO aT aW aS fz u (y_os aK aO aT aW aS so fz u (y_ot aK aO aT aW aS so fz u k) k s + y_al aK aO aW aS so k s (u s)) k s t by rw [y_oi, h5]; rfl] at h9
                  exact h9
            exact LT s 0  (by omega)
          | true =>
            refine m_J_run hM 1 rfl ⟨trivial, trivial⟩ ?_
            refine m_J_if (fun hc => absurd hc (by decide)) (fun _ => ?_)
            refine m_J_run hM 3 rfl ⟨trivial, trivial, trivial, trivial⟩ ?_
            rw [nI_add s 1]
            have h9 := ihs (s + 1) w4 (by omega)
            rw [show y_os aK aO aT aW aS so fz u (y_ot aK aO aT aW aS so fz u k) k (s + 1) = y_os aK aO aT aW aS so fz u (y_ot aK aO aT aW aS so fz u k) k s by rw [y_os, h4]; rfl] at h9
            exact h9
      exact LS 60 0 w4 (by omega)
  exact LP ls 0 _ _ (by omega)
set_option maxHeartbeats 4000000 in
theorem y_weighs (hZ : Z.length = 70) (hls : ls ≤ 14) (hfs : fb_ct fz 60 ≤ 5) : m_Sp l (m_EX E N xs) E mM_X9_weighs (d + 2) 0 0 [.ref 70] (Z ++ k_M th u so fz fs gt yr aK aO aT aH aW aS aL ls pl ps tp td pt en bg fa fv mt nx pL sg bo wa gv bw of o) tg (fun v H tg' => tg' = tg ∧ (v = none ∧ ∃ (q r : Nat → Int32), y_sgI (fun a b => y_s0 aK aO aT aW aS so fz u ((y_pp fz pL 60) a) b ls) q (fb_ct fz 60) 0 ∧ y_boI (fun a b c e => y_b0 aK aO aT aW aS ((y_pp fz pL 60) a) ((y_pp fz pL 60) b) c e ls) r (fb_ct fz 60) 0 0 0 ∧ H = (Z ++ k_M th u so fz fs gt yr aK aO aT aH aW aS aL ls pl ps tp td pt en bg fa fv mt nx (y_pp fz pL 60) q r wa gv bw of o))) m_no := by
  have hM := mM_X9_weighs_ok
  refine m_Sp_of (by decide) (Nat.le_of_ble_eq_true rfl) ?_
  refine m_J_run hM 4 rfl ⟨trivial, trivial, trivial, trivial, trivial⟩ ?_
  have LP : ∀ (n9 s : Nat), s + n9 = 60 → m_J l (m_EX E N xs) E mM_X9_weighs (d + 2) 0 0 (fun v H tg' => tg' = tg ∧ (v = none ∧ ∃ (q r : Nat → Int32), y_sgI (fun a b => y_s0 aK aO aT aW aS so fz u ((y_pp fz pL 60) a) b ls) q (fb_ct fz 60) 0 ∧ y_boI (fun a b c e => y_b0 aK aO aT aW aS ((y_pp fz pL 60) a) ((y_pp fz pL 60) b) c e ls) r (fb_ct fz 60) 0 0 0 ∧ H = (Z ++ k_M th u so fz fs gt yr aK aO aT aH aW aS aL ls pl ps tp td pt en bg fa fv mt nx (y_pp fz pL 60) q r wa gv bw of o))) m_no tg 0 0 (4, [some (.ref 70), some (.int (nI (fb_ct fz s))), some (.int (nI s)), none, none, none, none, none], [], (Z ++ k_M th u so fz fs gt yr aK aO aT aH aW aS aL ls pl ps tp td pt en bg fa fv mt nx (y_pp fz pL s) sg bo wa gv bw of o)) := by
    intro n9
    induction n9 with
    | zero =>
      intro s  hi 
      have e9 : s = 60 := by omega
      rw [e9]
      refine m_J_run hM 3 rfl ⟨trivial, trivial, trivial, trivial⟩ ?_
      refine m_J_if (fun _ => ?_) (fun hc => absurd (nI_le (by omega) (by omega)) hc)
      refine m_J_run hM 2 rfl ⟨trivial, trivial, trivial⟩ ?_
      have hp : ∀ i, i < fb_ct fz 60 → y_pp fz pL 60 i < 60 := fun i hi => (y_pp_lt fz pL 60 i hi).1
      generalize hP : y_pp fz pL 60 = P at hp ⊢
      generalize hn : fb_ct fz 60 = n at hfs hp ⊢
      have LA : ∀ (a9 i : Nat) (q r : Nat → Int32) (w3 : Option Value) (w4 : Option Value) (w5 : Option Value) (w6 : Option Value) (w7 : Option Value), i + a9 = n → y_sgI (fun a b => y_s0 aK aO aT aW aS so fz u (P a) b ls) q i 0 → y_boI (fun a b c e => y_b0 aK aO aT aW aS (P a) (P b) c e ls) r i 0 0 0 → m_J l (m_EX E N xs) E mM_X9_weighs (d + 2) 0 0 (fun v H tg' => tg' = tg ∧ (v = none ∧ ∃ (q r : Nat → Int32), y_sgI (fun a b => y_s0 aK aO aT aW aS so fz u (P a) b ls) q (n) 0 ∧ y_boI (fun a b c e => y_b0 aK aO aT aW aS (P a) (P b) c e ls) r (n) 0 0 0 ∧ H = (Z ++ k_M th u so fz fs gt yr aK aO aT aH aW aS aL ls pl ps tp td pt en bg fa fv mt nx P q r wa gv bw of o))) m_no tg 0 0 (40, [some (.ref 70), some (.int (nI n)), some (.int (nI i)), w3, w4, w5, w6, w7], [], (Z ++ k_M th u so fz fs gt yr aK aO aT aH aW aS aL ls pl ps tp td pt en bg fa fv mt nx P q r wa gv bw of o)) := by
        intro a9
        induction a9 with
        | zero =>
          intro i q r w3 w4 w5 w6 w7 ha h1 h2
          have e9 : i = n := by omega
          rw [e9] at h1 h2 ⊢
          refine m_J_run hM 3 rfl ⟨trivial, trivial, trivial, trivial⟩ ?_
          refine m_J_if (fun _ => ?_) (fun hc => absurd (nI_le (by omega) (by omega)) hc)
          exact m_J_vret hM rfl rfl (Nat.le_of_ble_eq_true rfl) (Nat.le_of_ble_eq_true rfl) (⟨rfl, rfl, q, r, h1, h2, rfl⟩)
        | succ a9 iha =>
          intro i q r w3 w4 w5 w6 w7 ha h1 h2
          refine m_J_run hM 3 rfl ⟨trivial, trivial, trivial, trivial⟩ ?_
          refine m_J_if (fun hc => absurd hc (nI_ge (by omega) (by omega))) (fun _ => ?_)
          refine m_J_run hM 2 rfl ⟨trivial, trivial, trivial⟩ ?_
          have hpi := hp i (by omega)
          have LV : ∀ (v9 v : Nat) (q r : Nat → Int32) (w4 : Option Value) (w5 : Option Value) (w6 : Option Value) (w7 : Option Value), v + v9 = 5 → 1 ≤ v → y_sgI (fun a b => y_s0 aK aO aT aW aS so fz u (P a) b ls) q i v → y_boI (fun a b c e => y_b0 aK aO aT aW aS (P a) (P b) c e ls) r i v 0 0 → m_J l (m_EX E N xs) E mM_X9_weighs (d + 2) 0 0 (fun v H tg' => tg' = tg ∧ (v = none ∧ ∃ (q r : Nat → Int32), y_sgI (fun a b => y_s0 aK aO aT aW aS so fz u (P a) b ls) q (n) 0 ∧ y_boI (fun a b c e => y_b0 aK aO aT aW aS (P a) (P b) c e ls) r (n) 0 0 0 ∧ H = (Z ++ k_M th u so fz fs gt yr aK aO aT aH aW aS aL ls pl ps tp td pt en bg fa fv mt nx P q r wa gv bw of o))) m_no tg 0 0 (47, [some (.ref 70), some (.int (nI n)), some (.int (nI i)), some (.int (nI v)), w4, w5, w6, w7], [], (Z ++ k_M th u so fz fs gt yr aK aO aT aH aW aS aL ls pl ps tp td pt en bg fa fv mt nx P q r wa gv bw of o)) := by
            intro v9
            induction v9 with
            | zero =>
              intro v q r w4 w5 w6 w7 hb hv h1 h2
              have e9 : v = 5 := by omega
              rw [e9] at h1 h2 ⊢
              refine m_J_run hM 3 rfl ⟨trivial, trivial, trivial, trivial⟩ ?_
              refine m_J_if (fun _ => ?_) (fun hc => absurd (nI_le (by omega) (by omega)) hc)
              refine m_J_run hM 2 rfl ⟨trivial, trivial, trivial⟩ ?_
              rw [nI_add i 1]
              have h9 := iha (i + 1) q r (some (.int (nI 5))) w4 w5 w6 w7 (by omega) (fun a b h3 h4 h5 h6 => h1 a b h3 h4 h5 (by omega)) (fun a b c e h3 h4 h5 h6 h7 h8 h9 => h2 a b c e h3 h4 h5 h6 h7 h8 (by omega))
              exact h9
            | succ v9 ihv =>
              intro v q r w4 w5 w6 w7 hb hv h1 h2
              refine m_J_run hM 3 rfl ⟨trivial, trivial, trivial, trivial⟩ ?_
              refine m_J_if (fun hc => absurd hc (nI_ge (by omega) (by omega))) (fun _ => ?_)
              refine m_J_run hM 4 rfl ⟨trivial, trivial, trivial, trivial, trivial⟩ ?_
              have LK : ∀ (k9 k : Nat) (w6 : Option Value), k + k9 = ls → m_J l (m_EX E N xs) E mM_X9_weighs (d + 2) 0 0 (fun v H tg' => tg' = tg ∧ (v = none ∧ ∃ (q r : Nat → Int32), y_sgI (fun a b => y_s0 aK aO aT aW aS so fz u (P a) b ls) q (n) 0 ∧ y_boI (fun a b c e => y_b0 aK aO aT aW aS (P a) (P b) c e ls) r (n) 0 0 0 ∧ H = (Z ++ k_M th u so fz fs gt yr aK aO aT aH aW aS aL ls pl ps tp td pt en bg fa fv mt nx P q r wa gv bw of o))) m_no tg 0 0 (58, [some (.ref 70), some (.int (nI n)), some (.int (nI i)), some (.int (nI v)), some (.int (y_s0 aK aO aT aW aS so fz u (P i) v k)), some (.int (nI k)), w6, w7], [], (Z ++ k_M th u so fz fs gt yr aK aO aT aH aW aS aL ls pl ps tp td pt en bg fa fv mt nx P q r wa gv bw of o)) := by
                intro k9
                induction k9 with
                | zero =>
                  intro k w6 hk 
                  have e9 : k = ls := by omega
                  rw [e9]
                  refine m_J_run hM 2 rfl ⟨trivial, trivial, trivial⟩ ?_
                  refine m_J_getf hM rfl rfl (kZ hZ 0 rfl) (rfl) ?_
                  refine m_J_run hM 1 rfl ⟨trivial, trivial⟩ ?_
                  refine m_J_if (fun _ => ?_) (fun hc => absurd (nI_le (by omega) (by omega)) hc)
                  refine m_J_run hM 1 rfl ⟨trivial, trivial⟩ ?_
                  refine m_J_getf hM rfl rfl (kZ hZ 0 rfl) (rfl) ?_
                  refine m_J_run hM 6 rfl ⟨trivial, trivial, trivial, trivial, trivial, trivial, trivial⟩ ?_
                  rw [pk_mul 5 i, nI_add (5 * i) v]
                  refine m_iastN hM rfl (kZ hZ 17 rfl) (by omega) (by omega) ?_
                  refine m_J_eqH (H' := (Z ++ k_M th u so fz fs gt yr aK aO aT aH aW aS aL ls pl ps tp td pt en bg fa fv mt nx P (upd q ((5 * i) + v) (y_s0 aK aO aT aW aS so fz u (P i) v ls)) r wa gv bw of o)) (kZs hZ 17 (rfl)) ?_
                  refine m_J_run hM 2 rfl ⟨trivial, trivial, trivial⟩ ?_
                  have h3 := y_sgI_s (v := v) h1 (by omega)
                  have LJ : ∀ (j9 j : Nat) (r : Nat → Int32) (y4 : Int32) (w6 : Option Value) (w7 : Option Value), j + j9 = i → y_boI (fun a b c e => y_b0 aK aO aT aW aS (P a) (P b) c e ls) r i v j 0 → m_J l (m_EX E N xs) E mM_X9_weighs (d + 2) 0 0 (fun v H tg' => tg' = tg ∧ (v = none ∧ ∃ (q r : Nat → Int32), y_sgI (fun a b => y_s0 aK aO aT aW aS so fz u (P a) b ls) q (n) 0 ∧ y_boI (fun a b c e => y_b0 aK aO aT aW aS (P a) (P b) c e ls) r (n) 0 0 0 ∧ H = (Z ++ k_M th u so fz fs gt yr aK aO aT aH aW aS aL ls pl ps tp td pt en bg fa fv mt nx P q r wa gv bw of o))) m_no tg 0 0 (159, [some (.ref 70), some (.int (nI n)), some (.int (nI i)), some (.int (nI v)), some (.int y4), some (.int (nI j)), w6, w7], [], (Z ++ k_M th u so fz fs gt yr aK aO aT aH aW aS aL ls pl ps tp td pt en bg fa fv mt nx P (upd q ((5 * i) + v) (y_s0 aK aO aT aW aS so fz u (P i) v ls)) r wa gv bw of o)) := by
                    intro j9
                    induction j9 with
                    | zero =>
                      intro j r y4 w6 w7 hj h2
                      have e9 : j = i := by omega
                      rw [e9] at h2 ⊢
                      refine m_J_run hM 3 rfl ⟨trivial, trivial, trivial, trivial⟩ ?_
                      refine m_J_if (fun _ => ?_) (fun hc => absurd (nI_le (by omega) (by omega)) hc)
                      refine m_J_run hM 2 rfl ⟨trivial, trivial, trivial⟩ ?_
                      rw [nI_add v 1]
                      have h9 := ihv (v + 1) (upd q ((5 * i) + v) (y_s0 aK aO aT aW aS so fz u (P i) v ls)) r (some (.int y4)) (some (.int (nI i))) w6 w7 (by omega) (by omega) h3 (fun a b c e h3 h4 h5 h6 h7 h8 h9 => h2 a b c e h3 h4 h5 h6 h7 h8 (by omega))
                      exact h9
                    | succ j9 ihj =>
                      intro j r y4 w6 w7 hj h2
                      refine m_J_run hM 3 rfl ⟨trivial, trivial, trivial, trivial⟩ ?_
                      refine m_J_if (fun hc => absurd hc (nI_ge (by omega) (by omega))) (fun _ => ?_)
                      refine m_J_run hM 2 rfl ⟨trivial, trivial, trivial⟩ ?_
                      have hpj := hp j (by omega)
                      have LW : ∀ (w9 w : Nat) (r : Nat → Int32) (y4 : Int32) (w7 : Option Value), w + w9 = 5 → 1 ≤ w → y_boI (fun a b c e => y_b0 aK aO aT aW aS (P a) (P b) c e ls) r i v j w → m_J l (m_EX E N xs) E mM_X9_weighs (d + 2) 0 0 (fun v H tg' => tg' = tg ∧ (v = none ∧ ∃ (q r : Nat → Int32), y_sgI (fun a b => y_s0 aK aO aT aW aS so fz u (P a) b ls) q (n) 0 ∧ y_boI (fun a b c e => y_b0 aK aO aT aW aS (P a) (P b) c e ls) r (n) 0 0 0 ∧ H = (Z ++ k_M th u so fz fs gt yr aK aO aT aH aW aS aL ls pl ps tp td pt en bg fa fv mt nx P q r wa gv bw of o))) m_no tg 0 0 (168, [some (.ref 70), some (.int (nI n)), some (.int (nI i)), some (.int (nI v)), some (.int y4), some (.int (nI j)), some (.int (nI w)), w7], [], (Z ++ k_M th u so fz fs gt yr aK aO aT aH aW aS aL ls pl ps tp td pt en bg fa fv mt nx P (upd q ((5 * i) + v) (y_s0 aK aO aT aW aS so fz u (P i) v ls)) r wa gv bw of o)) := by
                        intro w9
                        induction w9 with
                        | zero =>
                          intro w r y4 w7 hc hw h2
                          have e9 : w = 5 := by omega
                          rw [e9] at h2 ⊢
                          refine m_J_run hM 3 rfl ⟨trivial, trivial, trivial, trivial⟩ ?_
                          refine m_J_if (fun _ => ?_) (fun hc => absurd (nI_le (by omega) (by omega)) hc)
                          refine m_J_run hM 2 rfl ⟨trivial, trivial, trivial⟩ ?_
                          rw [nI_add j 1]
                          have h9 := ihj (j + 1) r y4 (some (.int (nI 5))) w7 (by omega) (fun a b c e h3 h4 h5 h6 h7 h8 h9 => h2 a b c e h3 h4 h5 h6 h7 h8 (by omega))
                          exact h9
                        | succ w9 ihw =>
                          intro w r y4 w7 hc hw h2
                          refine m_J_run hM 3 rfl ⟨trivial, trivial, trivial, trivial⟩ ?_
                          refine m_J_if (fun hc => absurd hc (nI_ge (by omega) (by omega))) (fun _ => ?_)
                          refine m_J_run hM 4 rfl ⟨trivial, trivial, trivial, trivial, trivial⟩ ?_
                          have LQ : ∀ (q9 k : Nat), k + q9 = ls → m_J l (m_EX E N xs) E mM_X9_weighs (d + 2) 0 0 (fun v H tg' => tg' = tg ∧ (v = none ∧ ∃ (q r : Nat → Int32), y_sgI (fun a b => y_s0 aK aO aT aW aS so fz u (P a) b ls) q (n) 0 ∧ y_boI (fun a b c e => y_b0 aK aO aT aW aS (P a) (P b) c e ls) r (n) 0 0 0 ∧ H = (Z ++ k_M th u so fz fs gt yr aK aO aT aH aW aS aL ls pl ps tp td pt en bg fa fv mt nx P q r wa gv bw of o))) m_no tg 0 0 (180, [some (.ref 70), some (.int (nI n)), some (.int (nI i)), some (.int (nI v)), some (.int (y_b0 aK aO aT aW aS (P i) (P j) v w k)), some (.int (nI j)), some (.int (nI w)), some (.int (nI k))], [], (Z ++ k_M th u so fz fs gt yr aK aO aT aH aW aS aL ls pl ps tp td pt en bg fa fv mt nx P (upd q ((5 * i) + v) (y_s0 aK aO aT aW aS so fz u (P i) v ls)) r wa gv bw of o)) := by
                            intro q9
                            induction q9 with
                            | zero =>
                              intro k  hq 
                              have e9 : k = ls := by omega
                              rw [e9]
                              refine m_J_run hM 2 rfl ⟨trivial, trivial, trivial⟩ ?_
                              refine m_J_getf hM rfl rfl (kZ hZ 0 rfl) (rfl) ?_
                              refine m_J_run hM 1 rfl ⟨trivial, trivial⟩ ?_
                              refine m_J_if (fun _ => ?_) (fun hc => absurd (nI_le (by first | omega | (unfold k_ba4; omega)) (by first | omega | (unfold k_ba4; omega))) hc)
                              refine m_J_run hM 1 rfl ⟨trivial, trivial⟩ ?_
                              refine m_J_getf hM rfl rfl (kZ hZ 0 rfl) (rfl) ?_
                              refine m_J_run hM 4 rfl ⟨trivial, trivial, trivial, trivial, trivial⟩ ?_
                              refine m_cS4 hM rfl kw_X9_250 (y_bothAt) (Nat.le_of_ble_eq_true rfl) ?_
                              refine m_J_run hM 1 rfl ⟨trivial, trivial⟩ ?_
                              refine m_iastN hM rfl (kZ hZ 18 rfl) (by first | omega | (unfold k_ba4; omega)) (by omega) ?_
                              refine m_J_eqH (H' := (Z ++ k_M th u so fz fs gt yr aK aO aT aH aW aS aL ls pl ps tp td pt en bg fa fv mt nx P (upd q ((5 * i) + v) (y_s0 aK aO aT aW aS so fz u (P i) v ls)) (upd r (k_ba4 i j v w) (y_b0 aK aO aT aW aS (P i) (P j) v w ls)) wa gv bw of o)) (kZs hZ 18 (rfl)) ?_
                              refine m_J_run hM 2 rfl ⟨trivial, trivial, trivial⟩ ?_
                              rw [nI_add w 1]
                              have h9 := ihw (w + 1) (upd r (k_ba4 i j v w) (y_b0 aK aO aT aW aS (P i) (P j) v w ls)) (y_b0 aK aO aT aW aS (P i) (P j) v w ls) (some (.int (nI ls))) (by omega) (by omega) (y_boI_s h2 (by omega) (by omega) (by omega))
                              exact h9
                            | succ q9 ihq =>
                              intro k  hq 
                              refine m_J_run hM 2 rfl ⟨trivial, trivial, trivial⟩ ?_
                              refine m_J_getf hM rfl rfl (kZ hZ 0 rfl) (rfl) ?_
                              refine m_J_run hM 1 rfl ⟨trivial, trivial⟩ ?_
                              refine m_J_if (fun hc => absurd hc (nI_ge (by omega) (by omega))) (fun _ => ?_)
                              refine m_J_run hM 4 rfl ⟨trivial, trivial, trivial, trivial, trivial⟩ ?_
                              refine m_J_getf hM rfl rfl (kZ hZ 0 rfl) (rfl) ?_
                              refine m_J_run hM 1 rfl ⟨trivial, trivial⟩ ?_
                              refine m_ialdN hM rfl (kZ hZ 16 rfl) (by omega) (by omega) ?_
                              refine m_J_run hM 2 rfl ⟨trivial, trivial, trivial⟩ ?_
                              refine m_J_getf hM rfl rfl (kZ hZ 0 rfl) (rfl) ?_
                              refine m_J_run hM 1 rfl ⟨trivial, trivial⟩ ?_
                              refine m_ialdN hM rfl (kZ hZ 16 rfl) (by omega) (by omega) ?_
                              refine m_J_run hM 1 rfl ⟨trivial, trivial⟩ ?_
                              refine m_cV5 hZ hM rfl kw_X9_219 rfl rfl rfl (y_pair hZ (by omega) (by omega) (by omega)) rfl (Nat.le_of_ble_eq_true rfl) ?_
                              refine m_J_run hM 4 rfl ⟨trivial, trivial, trivial, trivial, trivial⟩ ?_
                              rw [nI_add k 1]
                              have h9 := ihq (k + 1) (by omega)
                              exact h9
                          exact LQ ls 0 (by omega)
                      exact LW 4 1 r y4 w7 (by omega) (by omega) (fun a b c e h3 h4 h5 h6 h7 h8 h9 => h2 a b c e h3 h4 h5 h6 h7 h8 (by omega))
                  exact LJ i 0 r _ w6 w7 (by omega) (fun a b c e h3 h4 h5 h6 h7 h8 h9 => h2 a b c e h3 h4 h5 h6 h7 h8 (by omega))
                | succ k9 ihk =>
                  intro k w6 hk 
                  refine m_J_run hM 2 rfl ⟨trivial, trivial, trivial⟩ ?_
                  refine m_J_getf hM rfl rfl (kZ hZ 0 rfl) (rfl) ?_
                  refine m_J_run hM 1 rfl ⟨trivial, trivial⟩ ?_
                  refine m_J_if (fun hc => absurd hc (nI_ge (by omega) (by omega))) (fun _ => ?_)
                  refine m_J_run hM 4 rfl ⟨trivial, trivial, trivial, trivial, trivial⟩ ?_
                  refine m_J_getf hM rfl rfl (kZ hZ 0 rfl) (rfl) ?_
                  refine m_J_run hM 1 rfl ⟨trivial, trivial⟩ ?_
                  refine m_ialdN hM rfl (kZ hZ 16 rfl) (by omega) (by omega) ?_
                  refine m_J_run hM 1 rfl ⟨trivial, trivial⟩ ?_
                  refine m_cV3 hZ hM rfl kw_X9_215 rfl rfl rfl (y_alone hZ (by omega) (by omega)) rfl (Nat.le_of_ble_eq_true rfl) ?_
                  refine m_J_run hM 4 rfl ⟨trivial, trivial, trivial, trivial, trivial⟩ ?_
                  have LT : ∀ (t9 t : Nat), t + t9 = 60 → m_J l (m_EX E N xs) E mM_X9_weighs (d + 2) 0 0 (fun v H tg' => tg' = tg ∧ (v = none ∧ ∃ (q r : Nat → Int32), y_sgI (fun a b => y_s0 aK aO aT aW aS so fz u (P a) b ls) q (n) 0 ∧ y_boI (fun a b c e => y_b0 aK aO aT aW aS (P a) (P b) c e ls) r (n) 0 0 0 ∧ H = (Z ++ k_M th u so fz fs gt yr aK aO aT aH aW aS aL ls pl ps tp td pt en bg fa fv mt nx P q r wa gv bw of o))) m_no tg 0 0 (88, [some (.ref 70), some (.int (nI n)), some (.int (nI i)), some (.int (nI v)), some (.int (y_s1 aK aO aT aW aS fz u (y_s0 aK aO aT aW aS so fz u (P i) v k + y_al aK aO aW aS so k (P i) (nI v)) k (P i) v t)), some (.int (nI k)), some (.int (nI t)), w7], [], (Z ++ k_M th u so fz fs gt yr aK aO aT aH aW aS aL ls pl ps tp td pt en bg fa fv mt nx P q r wa gv bw of o)) := by
                    intro t9
                    induction t9 with
                    | zero =>
                      intro t  ht 
                      have e9 : t = 60 := by omega
                      rw [e9]
                      refine m_J_run hM 3 rfl ⟨trivial, trivial, trivial, trivial⟩ ?_
                      refine m_J_if (fun _ => ?_) (fun hc => absurd (nI_le (by omega) (by omega)) hc)
                      refine m_J_run hM 2 rfl ⟨trivial, trivial, trivial⟩ ?_
                      rw [nI_add k 1]
                      have h9 := ihk (k + 1) (some (.int (nI 60))) (by omega)
                      exact h9
                    | succ t9 iht =>
                      intro t  ht 
                      refine m_J_run hM 3 rfl ⟨trivial, trivial, trivial, trivial⟩ ?_
                      refine m_J_if (fun hc => absurd hc (nI_ge (by omega) (by omega))) (fun _ => ?_)
                      refine m_J_run hM 1 rfl ⟨trivial, trivial⟩ ?_
                      refine m_J_getf hM rfl rfl (kZ hZ 0 rfl) (rfl) ?_
                      refine m_J_run hM 1 rfl ⟨trivial, trivial⟩ ?_
                      refine m_zaldN hM rfl (kZ hZ 3 rfl) (by omega) (by omega) ?_
                      cases h5 : fz t with
                      | false =>
                        refine m_J_run hM 1 rfl ⟨trivial, trivial⟩ ?_
                        refine m_J_if (fun hc => absurd hc (by decide)) (fun _ => ?_)
                        refine m_J_run hM 4 rfl ⟨trivial, trivial, trivial, trivial, trivial⟩ ?_
                        refine m_J_getf hM rfl rfl (kZ hZ 0 rfl) (rfl) ?_
                        refine m_J_run hM 1 rfl ⟨trivial, trivial⟩ ?_
                        refine m_ialdN hM rfl (kZ hZ 16 rfl) (by omega) (by omega) ?_
                        refine m_J_run hM 3 rfl ⟨trivial, trivial, trivial, trivial⟩ ?_
                        refine m_J_getf hM rfl rfl (kZ hZ 0 rfl) (rfl) ?_
                        refine m_J_run hM 1 rfl ⟨trivial, trivial⟩ ?_
                        refine m_ialdN hM rfl (kZ hZ 1 rfl) (by omega) (by omega) ?_
                        refine m_cV5 hZ hM rfl kw_X9_219 rfl rfl rfl (y_pair hZ (by omega) (by omega) (by omega)) rfl (Nat.le_of_ble_eq_true rfl) ?_
                        refine m_J_run hM 4 rfl ⟨trivial, trivial, trivial, trivial, trivial⟩ ?_
                        rw [nI_add t 1]
                        have h9 := iht (t + 1) (by omega)
                        rw [show y_s1 aK aO aT aW aS fz u (y_s0 aK aO aT aW aS so fz u (P i) v k + y_al aK aO aW aS so k (P i) (nI v)) k (P i) v (t + 1) = (y_s1 aK aO aT aW aS fz u (y_s0 aK aO aT aW aS so fz u (P i) v k + y_al aK aO aW aS so k (P i) (nI v)) k (P i) v t) + (y_pr aK aO aT aW aS k (P i) t (nI v) (u t)) by rw [y_s1, h5]; rfl] at h9
                        exact h9
                      | true =>
                        refine m_J_run hM 1 rfl ⟨trivial, trivial⟩ ?_
                        refine m_J_if (fun _ => ?_) (fun hc => absurd (by decide) hc)
                        refine m_J_run hM 2 rfl ⟨trivial, trivial, trivial⟩ ?_
                        rw [nI_add t 1]
                        have h9 := iht (t + 1) (by omega)
                        rw [show y_s1 aK aO aT aW aS fz u (y_s0 aK aO aT aW aS so fz u (P i) v k + y_al aK aO aW aS so k (P i) (nI v)) k (P i) v (t + 1) = y_s1 aK aO aT aW aS fz u (y_s0 aK aO aT aW aS so fz u (P i) v k + y_al aK aO aW aS so k (P i) (nI v)) k (P i) v t by rw [y_s1, h5]; rfl] at h9
                        exact h9
                  exact LT 60 0 (by omega)
              exact LK ls 0 w6 (by omega)
          exact LV 4 1 q r w4 w5 w6 w7 (by omega) (by omega) (fun a b h3 h4 h5 h6 => h1 a b h3 h4 h5 (by omega)) (fun a b c e h3 h4 h5 h6 h7 h8 h9 => h2 a b c e h3 h4 h5 h6 h7 h8 (by omega))
      exact LA n 0 sg bo _ _ _ _ _ (by omega) (fun a b h3 h4 h5 h6 => absurd h6 (by omega)) (fun a b c e h3 h4 h5 h6 h7 h8 h9 => absurd h9 (by omega))
    | succ n9 ih =>
      intro s  hi 
      refine m_J_run hM 3 rfl ⟨trivial, trivial, trivial, trivial⟩ ?_
      refine m_J_if (fun hc => absurd hc (nI_ge (by omega) (by omega))) (fun _ => ?_)
      refine m_J_run hM 1 rfl ⟨trivial, trivial⟩ ?_
      refine m_J_getf hM rfl rfl (kZ hZ 0 rfl) (rfl) ?_
      refine m_J_run hM 1 rfl ⟨trivial, trivial⟩ ?_
      refine m_zaldN hM rfl (kZ hZ 3 rfl) (by omega) (by omega) ?_
      cases h4 : fz s with
      | false =>
        refine m_J_run hM 1 rfl ⟨trivial, trivial⟩ ?_
        refine m_J_if (fun hc => absurd hc (by decide)) (fun _ => ?_)
        refine m_J_run hM 3 rfl ⟨trivial, trivial, trivial, trivial⟩ ?_
        rw [nI_add s 1]
        have h9 := ih (s + 1) (by omega)
        rw [show fb_ct fz (s + 1) = fb_ct fz s by rw [fb_ct_succ, h4]; rfl] at h9
        rw [show y_pp fz pL (s + 1) = y_pp fz pL s by rw [y_pp, h4]; rfl] at h9
        exact h9
      | true =>
        refine m_J_run hM 1 rfl ⟨trivial, trivial⟩ ?_
        refine m_J_if (fun _ => ?_) (fun hc => absurd (by decide) hc)
        have h5 : fb_ct fz (s + 1) = fb_ct fz s + 1 := by rw [fb_ct_succ, h4]; rfl
        have h6 := fb_ct_mono fz (show s + 1 ≤ 60 by omega)
        refine m_J_run hM 1 rfl ⟨trivial, trivial⟩ ?_
        refine m_J_getf hM rfl rfl (kZ hZ 0 rfl) (rfl) ?_
        refine m_J_run hM 2 rfl ⟨trivial, trivial, trivial⟩ ?_
        refine m_iastN hM rfl (kZ hZ 16 rfl) (by omega) (by omega) ?_
        refine m_J_eqH (H' := (Z ++ k_M th u so fz fs gt yr aK aO aT aH aW aS aL ls pl ps tp td pt en bg fa fv mt nx (k_uI (y_pp fz pL s) (fb_ct fz s) s) sg bo wa gv bw of o)) (kZs hZ 16 (by rw [k_uN]; rfl)) ?_
        refine m_J_run hM 3 rfl ⟨trivial, trivial, trivial, trivial⟩ ?_
        rw [nI_add (fb_ct fz s) 1, nI_add s 1]
        have h9 := ih (s + 1) (by omega)
        rw [h5] at h9
        rw [show y_pp fz pL (s + 1) = k_uI (y_pp fz pL s) (fb_ct fz s) s by rw [y_pp, h4]; rfl] at h9
        exact h9
  exact LP 60 0 (by omega)
end
