/-! THE MODEL: bytes, blanks, words, numbers (written by wip/gen_model10.py) -/
def k_isb (x : Int32) : Prop := x = x.toInt8.toInt32
theorem k_isb_n (b : Nat) (hb : b < 256) : (b < 128 → (Int8.ofNat b).toInt32 = nI b ∧ (Int8.ofNat b).toInt32 &&& nI 255 = nI b) ∧ (128 ≤ b → (Int8.ofNat b).toInt32 < 0 ∧ (Int8.ofNat b).toInt32 &&& nI 255 = nI b) := by
  have h : ∀ b, b < 256 → (b < 128 → (Int8.ofNat b).toInt32 = nI b ∧ (Int8.ofNat b).toInt32 &&& nI 255 = nI b) ∧ (128 ≤ b → (Int8.ofNat b).toInt32 < 0 ∧ (Int8.ofNat b).toInt32 &&& nI 255 = nI b) := by decide +kernel
  exact h b hb
/-- a byte: below 128 as it is, else below 0 -/
theorem k_isb_c {x : Int32} (h : k_isb x) : (∃ b, b < 128 ∧ x = nI b ∧ x &&& nI 255 = nI b) ∨ (∃ b, 128 ≤ b ∧ b < 256 ∧ x < 0 ∧ x &&& nI 255 = nI b) := by
  have e : x.toInt8 = Int8.ofNat x.toInt8.toUInt8.toNat := by
    apply Int8.toBitVec_inj.mp
    show x.toInt8.toBitVec = BitVec.ofNat 8 x.toInt8.toBitVec.toNat
    rw [BitVec.ofNat_toNat, BitVec.setWidth_eq]
  have hb : x.toInt8.toUInt8.toNat < 256 := x.toInt8.toUInt8.toNat_lt
  unfold k_isb at h
  rw [e] at h
  generalize x.toInt8.toUInt8.toNat = b at h hb
  have k := k_isb_n b hb
  rw [← h] at k
  by_cases q : b < 128
  · exact Or.inl ⟨b, q, k.1 q⟩
  · exact Or.inr ⟨b, by omega, hb, k.2 (by omega)⟩
theorem k_isb_eq {x : Int32} (h : k_isb x) {c : Nat} (hc : c < 128) : x = nI c ↔ x &&& nI 255 = nI c := by
  rcases k_isb_c h with ⟨b, hb, e1, e2⟩ | ⟨b, h1, h2, e1, e2⟩
  · rw [e2, e1]
  · rw [e2]
    constructor
    · intro q; rw [q] at e1; exact absurd e1 (nI_pos (by omega))
    · intro q; have := (nI_eq (by omega) (by omega)).mp q; omega
theorem k_isb_in {x : Int32} (h : k_isb x) {a b : Nat} (ha : a < 128) (hb : b < 128) : (¬ x < nI a ∧ ¬ nI b < x) ↔ (¬ (x &&& nI 255) < nI a ∧ ¬ nI b < (x &&& nI 255)) := by
  rcases k_isb_c h with ⟨c, hc, e1, e2⟩ | ⟨c, h1, h2, e1, e2⟩
  · rw [e2, e1]
  · rw [e2]
    constructor
    · intro q
      exact absurd (Int32.lt_of_lt_of_le e1 (nI_pos' (n := a) (by omega))) q.1
    · intro q
      exact absurd (nI_lt (show b < c by omega) (by omega)) q.2
theorem k_isb_v {x : Int32} (h : k_isb x) {a b : Nat} (ha : a < 128) (hb : b < 128) (q : ¬ x < nI a ∧ ¬ nI b < x) : x &&& nI 255 = x := by
  rcases k_isb_c h with ⟨c, hc, e1, e2⟩ | ⟨c, h1, h2, e1, e2⟩
  · rw [e2, e1]
  · exact absurd (Int32.lt_of_lt_of_le e1 (nI_pos' (n := a) (by omega))) q.1
/-- is there a byte from a to b at p -/
def y_ia (g : Nat → Int32) (n p a b : Nat) : Bool := decide (p < n ∧ ¬ k_at g n p < nI a ∧ ¬ nI b < k_at g n p)
theorem k_at_lt {g : Nat → Int32} {n p : Nat} (h : p < n) : k_at g n p = g p &&& nI 255 := if_pos h
theorem k_at_ge {g : Nat → Int32} {n p : Nat} (h : n ≤ p) : k_at g n p = -nI 1 := if_neg (by omega)
def y_wp (g : Nat → Int32) (n p : Nat) : Nat := k_sb g n p + k_rl g n 97 122 (k_sb g n p)
def y_np (g : Nat → Int32) (n p : Nat) : Nat := k_sb g n p + k_rl g n 48 57 (k_sb g n p)
def y_uq (g : Nat → Int32) (n p : Nat) : Option Nat := if k_swb g n p 27 then some 0 else if k_swb g n p 28 then some 1 else if k_swb g n p 29 then some 2 else if k_swb g n p 30 then some 3 else if k_swb g n p 31 then some 4 else none
def y_num (g : Nat → Int32) (n p lo hi : Nat) : Option Nat := if k_nok g n p lo hi then some (k_nu g n p lo hi) else none
theorem k_txt : ∀ i, i < 42 → ∀ k, k < (m_tx i).length → (m_tx i).getD k 0 < 128 := by decide +kernel
theorem y_ia_b {g : Nat → Int32} {n p : Nat} : y_ia g n p 32 32 = decide (p < n ∧ k_at g n p = nI 32) := by
  unfold y_ia
  refine decide_eq_decide.mpr ⟨fun ⟨h1, h2, h3⟩ => ⟨h1, ?_⟩, fun ⟨h1, h2⟩ => ⟨h1, by rw [h2]; exact Int32.lt_irrefl, by rw [h2]; exact Int32.lt_irrefl⟩⟩
  exact Int32.le_antisymm (Int32.not_lt.mp h3) (Int32.not_lt.mp h2)
theorem y_ia_r {g : Nat → Int32} {n p i a b : Nat} (ha : 0 < a) (ha2 : a < 128) (hi : i < n) : y_ia g n (p + i) a b = decide (i < n ∧ ¬ k_at g n (p + i) < nI a ∧ ¬ nI b < k_at g n (p + i)) := by
  unfold y_ia
  refine decide_eq_decide.mpr ⟨fun h => ⟨hi, h.2⟩, fun h => ⟨?_, h.2⟩⟩
  refine Nat.lt_of_not_le (fun q => h.2.1 ?_)
  rw [k_at_ge q]
  exact Int32.lt_of_lt_of_le (show -nI 1 < 0 by decide) (nI_pos' (n := a) (by omega))
theorem y_ia_e {g : Nat → Int32} {n p a b : Nat} (h : n ≤ p) : y_ia g n p a b = false := decide_eq_false (fun q => absurd q.1 (by omega))
section
variable {l : Launch} {E : mE} {N : Nat} {xs : Nat → Int32} {M M' : mM} {d : Nat} {PR : Option Value → mH → Bool → Prop} {PX : String → mH → Prop} {tg : Bool} {pc t i si : Nat} {L : List (Option Value)} {h : mH} {rest : List Value} {v : Option Value} {a : Value}
theorem m_cT0 (hM : m_okM M = true) (hf : (m_tb M).lookup pc = some (.invokevirtual i, t)) (hcw : m_cwV M.1.cls i M' 0 = true) (hh0 : M'.2.2.2.2.1 = []) (hcl9 : M'.1.cls = "java/lang/String") (hi : si < 42) (hsp : m_Dt l (m_EX E N xs) E M' d 0 0 [.ref (1000001 + si)] h tg v h tg) (hrs : (rest.map fun v => v.category).sum ≤ 40) (hJ : m_J l (m_EX E N xs) E M (d + 1) 0 0 PR PX tg 0 0 (pc + 3, L, v.toList ++ rest, h)) : m_J l (m_EX E N xs) E M (d + 1) 0 0 PR PX tg 0 0 (pc, L, .ref (1000001 + si) :: rest, h) :=
  m_callT (as := []) (rest := rest) hM hf hcw rfl hh0 hcl9 hi hsp rfl hrs (Nat.le_refl _) (Nat.le_refl _) hJ
theorem m_cT1 (hM : m_okM M = true) (hf : (m_tb M).lookup pc = some (.invokevirtual i, t)) (hcw : m_cwV M.1.cls i M' 1 = true) (hh0 : M'.2.2.2.2.1 = []) (hcl9 : M'.1.cls = "java/lang/String") (hi : si < 42) (hsp : m_Dt l (m_EX E N xs) E M' d 0 0 [.ref (1000001 + si), a] h tg v h tg) (hrs : (rest.map fun v => v.category).sum ≤ 40) (hJ : m_J l (m_EX E N xs) E M (d + 1) 0 0 PR PX tg 0 0 (pc + 3, L, v.toList ++ rest, h)) : m_J l (m_EX E N xs) E M (d + 1) 0 0 PR PX tg 0 0 (pc, L, a :: .ref (1000001 + si) :: rest, h) :=
  m_callT (as := [a]) (rest := rest) hM hf hcw rfl hh0 hcl9 hi hsp rfl hrs (Nat.le_refl _) (Nat.le_refl _) hJ
end
section
variable {l : Launch} {E : mE} {N : Nat} {xs : Nat → Int32} {d : Nat} {tg : Bool} {Z : mH} {h : mH}
variable {th : Int32} {u : Nat → Int32} {so : Nat → Int32} {fz : Nat → Bool} {fs : Nat} {gt : Nat} {yr : Nat} {aK : Nat → Int32} {aO : Nat → Int32} {aT : Nat → Int32} {aH : Nat → Int32} {aW : Nat → Int32} {aS : Nat → Int32} {aL : Nat → Int32} {ls : Nat} {pl : Nat → Int32} {ps : Nat} {tp : Nat → Int32} {td : Nat} {pt : Nat} {en : Nat} {bg : Nat} {fa : Int32} {fv : Nat → Int32} {mt : Nat → Bool} {nx : Nat → Int32} {pL : Nat → Nat} {sg : Nat → Int32} {bo : Nat → Int32} {wa : Nat → Int32} {gv : Nat → Int32} {bw : Int32} {of : Nat → Int32} {o : mH}
set_option maxHeartbeats 2000000 in
theorem y_isAt (hZ : Z.length = 70) {a b : Nat} (hby : ∀ p, p < 400 → k_isb (tp p)) (hen : en ≤ 400) (ha : a < 128) (hb : b < 128) (hpt : pt ≤ 400) : m_Dt l (m_EX E N xs) E mM_X9_isAt d 0 0 [.ref 70, .int (nI a), .int (nI b)] (Z ++ k_M th u so fz fs gt yr aK aO aT aH aW aS aL ls pl ps tp td pt en bg fa fv mt nx pL sg bo wa gv bw of o) tg (some (.int (k_z (y_ia tp en pt a b)))) (Z ++ k_M th u so fz fs gt yr aK aO aT aH aW aS aL ls pl ps tp td pt en bg fa fv mt nx pL sg bo wa gv bw of o) tg := by
  have hM := mM_X9_isAt_ok
  refine m_Sp_of (by decide) (Nat.le_of_ble_eq_true rfl) ?_
  refine m_J_run hM 1 rfl ⟨trivial, trivial⟩ ?_
  refine m_J_getf hM rfl rfl (kZ hZ 0 rfl) (rfl) ?_
  refine m_J_run hM 1 rfl ⟨trivial, trivial⟩ ?_
  refine m_J_getf hM rfl rfl (kZ hZ 0 rfl) (rfl) ?_
  refine m_J_run hM 1 rfl ⟨trivial, trivial⟩ ?_
  refine m_J_if (fun h1 => ?_) (fun h1 => ?_)
  ·
    rw [nI_leI (by omega) (by omega)] at h1
    refine m_J_run hM 1 rfl ⟨trivial, trivial⟩ ?_
    exact m_iret hM rfl rfl (by decide) (Nat.le_of_ble_eq_true rfl) (Nat.le_of_ble_eq_true rfl) (by rw [y_ia_e h1]; rfl) (rfl)
  ·
    rw [nI_leI (by omega) (by omega)] at h1
    have hi := k_isb_in (hby pt (by omega)) ha hb
    rw [← k_at_lt (n := en) (by omega)] at hi
    refine m_J_run hM 1 rfl ⟨trivial, trivial⟩ ?_
    refine m_J_getf hM rfl rfl (kZ hZ 0 rfl) (rfl) ?_
    refine m_J_run hM 1 rfl ⟨trivial, trivial⟩ ?_
    refine m_J_getf hM rfl rfl (kZ hZ 0 rfl) (rfl) ?_
    refine m_baldN hM rfl (kZ hZ 12 rfl) (by omega) (by omega) ?_
    refine m_J_run hM 1 rfl ⟨trivial, trivial⟩ ?_
    refine m_J_run hM 1 rfl ⟨trivial, trivial⟩ ?_
    refine m_J_if (fun h2 => ?_) (fun h2 => ?_)
    ·
      refine m_J_run hM 1 rfl ⟨trivial, trivial⟩ ?_
      exact m_iret hM rfl rfl (by decide) (Nat.le_of_ble_eq_true rfl) (Nat.le_of_ble_eq_true rfl) (by rw [show y_ia tp en pt a b = false from decide_eq_false (fun q => (hi.mpr q.2).1 h2)]; rfl) (rfl)
    ·
      refine m_J_run hM 1 rfl ⟨trivial, trivial⟩ ?_
      refine m_J_getf hM rfl rfl (kZ hZ 0 rfl) (rfl) ?_
      refine m_J_run hM 1 rfl ⟨trivial, trivial⟩ ?_
      refine m_J_getf hM rfl rfl (kZ hZ 0 rfl) (rfl) ?_
      refine m_baldN hM rfl (kZ hZ 12 rfl) (by omega) (by omega) ?_
      refine m_J_run hM 1 rfl ⟨trivial, trivial⟩ ?_
      refine m_J_run hM 1 rfl ⟨trivial, trivial⟩ ?_
      refine m_J_if (fun h3 => ?_) (fun h3 => ?_)
      ·
        refine m_J_run hM 1 rfl ⟨trivial, trivial⟩ ?_
        exact m_iret hM rfl rfl (by decide) (Nat.le_of_ble_eq_true rfl) (Nat.le_of_ble_eq_true rfl) (by rw [show y_ia tp en pt a b = false from decide_eq_false (fun q => (hi.mpr q.2).2 h3)]; rfl) (rfl)
      ·
        refine m_J_run hM 2 rfl ⟨trivial, trivial, trivial⟩ ?_
        exact m_iret hM rfl rfl (by decide) (Nat.le_of_ble_eq_true rfl) (Nat.le_of_ble_eq_true rfl) (by rw [show y_ia tp en pt a b = true from decide_eq_true ⟨by omega, hi.mp ⟨h2, h3⟩⟩]; rfl) (rfl)
set_option maxHeartbeats 2000000 in
theorem y_blanks (hZ : Z.length = 70) (hby : ∀ p, p < 400 → k_isb (tp p)) (hen : en ≤ 400) (hpt : pt ≤ en) : m_Dt l (m_EX E N xs) E mM_X9_blanks (d + 1) 0 0 [.ref 70] (Z ++ k_M th u so fz fs gt yr aK aO aT aH aW aS aL ls pl ps tp td pt en bg fa fv mt nx pL sg bo wa gv bw of o) tg (none) (Z ++ k_M th u so fz fs gt yr aK aO aT aH aW aS aL ls pl ps tp td (k_sb tp en pt) en (k_sb tp en pt) fa fv mt nx pL sg bo wa gv bw of o) tg := by
  have hM := mM_X9_blanks_ok
  refine m_Sp_of (by decide) (Nat.le_of_ble_eq_true rfl) ?_
  have LP : ∀ (f p : Nat), p + f = en → k_sb tp en pt = k_sbf tp en f p → m_J l (m_EX E N xs) E mM_X9_blanks (d + 1) 0 0 (m_K (none) (Z ++ k_M th u so fz fs gt yr aK aO aT aH aW aS aL ls pl ps tp td (k_sb tp en pt) en (k_sb tp en pt) fa fv mt nx pL sg bo wa gv bw of o) tg) m_no tg 0 0 (0, [some (.ref 70)], [], (Z ++ k_M th u so fz fs gt yr aK aO aT aH aW aS aL ls pl ps tp td p en bg fa fv mt nx pL sg bo wa gv bw of o)) := by
    intro f
    induction f with
    | zero =>
      intro p hp h0
      refine m_J_run hM 3 rfl ⟨trivial, trivial, trivial, trivial⟩ ?_
      refine m_cV2 hZ hM rfl kw_X9_125 rfl rfl rfl (y_isAt hZ hby hen (by omega) (by omega) (by omega)) rfl (Nat.le_of_ble_eq_true rfl) ?_
      rw [y_ia_e (by omega)]
      refine m_J_run hM 1 rfl ⟨trivial, trivial⟩ ?_
      refine m_J_if (fun _ => ?_) (fun hc => absurd (by decide) hc)
      refine m_J_run hM 2 rfl ⟨trivial, trivial, trivial⟩ ?_
      refine m_J_getf hM rfl rfl (kZ hZ 0 rfl) (rfl) ?_
      refine m_J_putf hM rfl rfl (kZ hZ 0 rfl) (rfl) ?_
      refine m_J_eqH (H' := (Z ++ k_M th u so fz fs gt yr aK aO aT aH aW aS aL ls pl ps tp td p en p fa fv mt nx pL sg bo wa gv bw of o)) (kZs hZ 0 rfl) ?_
      exact m_vret hM rfl rfl (Nat.le_of_ble_eq_true rfl) (Nat.le_of_ble_eq_true rfl) (by rw [h0]; rfl)
    | succ f ih =>
      intro p hp h0
      rw [k_sbf] at h0
      refine m_J_run hM 3 rfl ⟨trivial, trivial, trivial, trivial⟩ ?_
      refine m_cV2 hZ hM rfl kw_X9_125 rfl rfl rfl (y_isAt hZ hby hen (by omega) (by omega) (by omega)) rfl (Nat.le_of_ble_eq_true rfl) ?_
      rw [y_ia_b]
      cases h1 : decide (p < en ∧ k_at tp en p = nI 32) with
      | false =>
        refine m_J_run hM 1 rfl ⟨trivial, trivial⟩ ?_
        refine m_J_if (fun _ => ?_) (fun hc => absurd (by decide) hc)
        rw [if_neg (of_decide_eq_false h1)] at h0
        refine m_J_run hM 2 rfl ⟨trivial, trivial, trivial⟩ ?_
        refine m_J_getf hM rfl rfl (kZ hZ 0 rfl) (rfl) ?_
        refine m_J_putf hM rfl rfl (kZ hZ 0 rfl) (rfl) ?_
        refine m_J_eqH (H' := (Z ++ k_M th u so fz fs gt yr aK aO aT aH aW aS aL ls pl ps tp td p en p fa fv mt nx pL sg bo wa gv bw of o)) (kZs hZ 0 rfl) ?_
        exact m_vret hM rfl rfl (Nat.le_of_ble_eq_true rfl) (Nat.le_of_ble_eq_true rfl) (by rw [h0])
      | true =>
        refine m_J_run hM 1 rfl ⟨trivial, trivial⟩ ?_
        refine m_J_if (fun hc => absurd hc (by decide)) (fun _ => ?_)
        rw [if_pos (of_decide_eq_true h1)] at h0
        refine m_J_run hM 2 rfl ⟨trivial, trivial, trivial⟩ ?_
        refine m_J_getf hM rfl rfl (kZ hZ 0 rfl) (rfl) ?_
        refine m_J_run hM 2 rfl ⟨trivial, trivial, trivial⟩ ?_
        rw [nI_add p 1]
        refine m_J_putf hM rfl rfl (kZ hZ 0 rfl) (rfl) ?_
        refine m_J_eqH (H' := (Z ++ k_M th u so fz fs gt yr aK aO aT aH aW aS aL ls pl ps tp td (p + 1) en bg fa fv mt nx pL sg bo wa gv bw of o)) (kZs hZ 0 rfl) ?_
        refine m_J_run hM 1 rfl ⟨trivial, trivial⟩ ?_
        exact ih (p + 1) (by omega) h0
  exact LP (en - pt) pt (by omega) rfl
set_option maxHeartbeats 2000000 in
theorem y_word (hZ : Z.length = 70) (hby : ∀ p, p < 400 → k_isb (tp p)) (hen : en ≤ 400) (hpt : pt ≤ en) : m_Dt l (m_EX E N xs) E mM_X9_word (d + 2) 0 0 [.ref 70] (Z ++ k_M th u so fz fs gt yr aK aO aT aH aW aS aL ls pl ps tp td pt en bg fa fv mt nx pL sg bo wa gv bw of o) tg (none) (Z ++ k_M th u so fz fs gt yr aK aO aT aH aW aS aL ls pl ps tp td (y_wp tp en pt) en (k_sb tp en pt) fa fv mt nx pL sg bo wa gv bw of o) tg := by
  have hM := mM_X9_word_ok
  refine m_Sp_of (by decide) (Nat.le_of_ble_eq_true rfl) ?_
  refine m_J_run hM 1 rfl ⟨trivial, trivial⟩ ?_
  refine m_cV0 hZ hM rfl kw_X9_132 rfl rfl rfl (y_blanks hZ hby hen (by omega)) rfl (Nat.le_of_ble_eq_true rfl) ?_
  have hb := (k_sb_le (g := tp) hpt).2
  unfold y_wp
  generalize k_sb tp en pt = b0 at hb ⊢
  have LP : ∀ (f i : Nat), i + f = en → b0 + i ≤ en → k_rl tp en 97 122 b0 = k_rlf tp en 97 122 b0 f i → m_J l (m_EX E N xs) E mM_X9_word (d + 2) 0 0 (m_K (none) (Z ++ k_M th u so fz fs gt yr aK aO aT aH aW aS aL ls pl ps tp td (b0 + k_rl tp en 97 122 b0) en b0 fa fv mt nx pL sg bo wa gv bw of o) tg) m_no tg 0 0 (4, [some (.ref 70)], [], (Z ++ k_M th u so fz fs gt yr aK aO aT aH aW aS aL ls pl ps tp td (b0 + i) en b0 fa fv mt nx pL sg bo wa gv bw of o)) := by
    intro f
    induction f with
    | zero =>
      intro i hi hbi h0
      refine m_J_run hM 3 rfl ⟨trivial, trivial, trivial, trivial⟩ ?_
      refine m_cV2 hZ hM rfl kw_X9_125 rfl rfl rfl (y_isAt hZ hby hen (by omega) (by omega) (by omega)) rfl (Nat.le_of_ble_eq_true rfl) ?_
      rw [y_ia_e (by omega)]
      refine m_J_run hM 1 rfl ⟨trivial, trivial⟩ ?_
      refine m_J_if (fun _ => ?_) (fun hc => absurd (by decide) hc)
      exact m_vret hM rfl rfl (Nat.le_of_ble_eq_true rfl) (Nat.le_of_ble_eq_true rfl) (by rw [h0]; rfl)
    | succ f ih =>
      intro i hi hbi h0
      rw [k_rlf] at h0
      refine m_J_run hM 3 rfl ⟨trivial, trivial, trivial, trivial⟩ ?_
      refine m_cV2 hZ hM rfl kw_X9_125 rfl rfl rfl (y_isAt hZ hby hen (by omega) (by omega) (by omega)) rfl (Nat.le_of_ble_eq_true rfl) ?_
      have hia := y_ia_r (g := tp) (n := en) (p := b0) (i := i) (a := 97) (b := 122) (by omega) (by omega) (by omega)
      cases h1 : y_ia tp en (b0 + i) 97 122 with
      | false =>
        refine m_J_run hM 1 rfl ⟨trivial, trivial⟩ ?_
        refine m_J_if (fun _ => ?_) (fun hc => absurd (by decide) hc)
        rw [h1] at hia
        rw [if_neg (of_decide_eq_false hia.symm)] at h0
        exact m_vret hM rfl rfl (Nat.le_of_ble_eq_true rfl) (Nat.le_of_ble_eq_true rfl) (by rw [h0])
      | true =>
        refine m_J_run hM 1 rfl ⟨trivial, trivial⟩ ?_
        refine m_J_if (fun hc => absurd hc (by decide)) (fun _ => ?_)
        rw [h1] at hia
        rw [if_pos (of_decide_eq_true hia.symm)] at h0
        have hlt := (of_decide_eq_true h1).1
        refine m_J_run hM 2 rfl ⟨trivial, trivial, trivial⟩ ?_
        refine m_J_getf hM rfl rfl (kZ hZ 0 rfl) (rfl) ?_
        refine m_J_run hM 2 rfl ⟨trivial, trivial, trivial⟩ ?_
        rw [nI_add (b0 + i) 1]
        refine m_J_putf hM rfl rfl (kZ hZ 0 rfl) (rfl) ?_
        refine m_J_eqH (H' := (Z ++ k_M th u so fz fs gt yr aK aO aT aH aW aS aL ls pl ps tp td ((b0 + i) + 1) en b0 fa fv mt nx pL sg bo wa gv bw of o)) (kZs hZ 0 rfl) ?_
        refine m_J_run hM 1 rfl ⟨trivial, trivial⟩ ?_
        exact ih (i + 1) (by omega) (by omega) h0
  exact LP en 0 (by omega) (by omega) rfl
set_option maxHeartbeats 2000000 in
theorem y_isWord (hZ : Z.length = 70) (hby : ∀ p, p < 400 → k_isb (tp p)) (hen : en ≤ 400) {b0 r si : Nat} (hsi : si < 42) (hbr : b0 + r ≤ en) : m_Dt l (m_EX E N xs) E mM_X9_isWord (d + 4) 0 0 [.ref 70, .ref (1000001 + si)] (Z ++ k_M th u so fz fs gt yr aK aO aT aH aW aS aL ls pl ps tp td (b0 + r) en b0 fa fv mt nx pL sg bo wa gv bw of o) tg (some (.int (k_z (decide (r = (m_tx si).length) && k_mtf tp en b0 (m_tx si) (m_tx si).length 0)))) (Z ++ k_M th u so fz fs gt yr aK aO aT aH aW aS aL ls pl ps tp td (b0 + r) en b0 fa fv mt nx pL sg bo wa gv bw of o) tg := by
  have hM := mM_X9_isWord_ok
  refine m_Sp_of (by decide) (Nat.le_of_ble_eq_true rfl) ?_
  have htx := (k_tx si hsi).1
  refine m_J_run hM 1 rfl ⟨trivial, trivial⟩ ?_
  refine m_J_getf hM rfl rfl (kZ hZ 0 rfl) (rfl) ?_
  refine m_J_run hM 1 rfl ⟨trivial, trivial⟩ ?_
  refine m_J_getf hM rfl rfl (kZ hZ 0 rfl) (rfl) ?_
  refine m_J_run hM 2 rfl ⟨trivial, trivial, trivial⟩ ?_
  rw [show nI (b0 + r) - nI b0 = nI ((b0 + r) - b0) from pk_sub (by omega)]
  rw [show b0 + r - b0 = r by omega]
  refine m_cT0 hM rfl kw_X9_135 rfl rfl hsi (s_length hsi) (Nat.le_of_ble_eq_true rfl) ?_
  refine m_J_run hM 1 rfl ⟨trivial, trivial⟩ ?_
  refine m_J_if (fun h1 => ?_) (fun h1 => ?_)
  ·
    rw [nI_eq (by omega) (by omega)] at h1
    refine m_J_run hM 4 rfl ⟨trivial, trivial, trivial, trivial, trivial⟩ ?_
    refine m_J_run hM 2 rfl ⟨trivial, trivial, trivial⟩ ?_
    refine m_J_if (fun _ => ?_) (fun hc => absurd (by first | decide | (rw [show 0 = 0 by omega]; decide)) hc)
    refine m_J_run hM 1 rfl ⟨trivial, trivial⟩ ?_
    exact m_iret hM rfl rfl (by decide) (Nat.le_of_ble_eq_true rfl) (Nat.le_of_ble_eq_true rfl) (by rw [decide_eq_false h1]; rfl) (rfl)
  ·
    rw [nI_eq (by omega) (by omega)] at h1
    have h1 := Classical.not_not.mp h1
    refine m_J_run hM 5 rfl ⟨trivial, trivial, trivial, trivial, trivial, trivial⟩ ?_
    rw [decide_eq_true h1, Bool.true_and]
    have LP : ∀ (f i : Nat) (e8 : Bool), i + f = (m_tx si).length → (k_mtf tp en b0 (m_tx si) (m_tx si).length 0 = (e8 && k_mtf tp en b0 (m_tx si) f i)) → m_J l (m_EX E N xs) E mM_X9_isWord (d + 4) 0 0 (m_K (some (.int (k_z (k_mtf tp en b0 (m_tx si) (m_tx si).length 0)))) (Z ++ k_M th u so fz fs gt yr aK aO aT aH aW aS aL ls pl ps tp td (b0 + r) en b0 fa fv mt nx pL sg bo wa gv bw of o) tg) m_no tg 0 0 (24, [some (.ref 70), some (.ref (1000001 + si)), some (.int (k_z e8)), some (.int (nI i))], [], (Z ++ k_M th u so fz fs gt yr aK aO aT aH aW aS aL ls pl ps tp td (b0 + r) en b0 fa fv mt nx pL sg bo wa gv bw of o)) := by
      intro f
      induction f with
      | zero =>
        intro i e8 hi h0
        rw [k_mtf, Bool.and_true] at h0
        refine m_J_run hM 1 rfl ⟨trivial, trivial⟩ ?_
        cases e8 with
        | false =>
          refine m_J_run hM 1 rfl ⟨trivial, trivial⟩ ?_
          refine m_J_if (fun _ => ?_) (fun hc => absurd (by decide) hc)
          refine m_J_run hM 1 rfl ⟨trivial, trivial⟩ ?_
          exact m_iret hM rfl rfl (k_z_nar _) (Nat.le_of_ble_eq_true rfl) (Nat.le_of_ble_eq_true rfl) (by rw [h0]) (rfl)
        | true =>
          refine m_J_run hM 1 rfl ⟨trivial, trivial⟩ ?_
          refine m_J_if (fun hc => absurd hc (by decide)) (fun _ => ?_)
          refine m_J_run hM 2 rfl ⟨trivial, trivial, trivial⟩ ?_
          refine m_cT0 hM rfl kw_X9_135 rfl rfl hsi (s_length hsi) (Nat.le_of_ble_eq_true rfl) ?_
          refine m_J_run hM 1 rfl ⟨trivial, trivial⟩ ?_
          refine m_J_if (fun _ => ?_) (fun hc => absurd (nI_le (by omega) (by omega)) hc)
          refine m_J_run hM 1 rfl ⟨trivial, trivial⟩ ?_
          exact m_iret hM rfl rfl (k_z_nar _) (Nat.le_of_ble_eq_true rfl) (Nat.le_of_ble_eq_true rfl) (by rw [h0]) (rfl)
      | succ f ih =>
        intro i e8 hi h0
        refine m_J_run hM 1 rfl ⟨trivial, trivial⟩ ?_
        cases e8 with
        | false =>
          refine m_J_run hM 1 rfl ⟨trivial, trivial⟩ ?_
          refine m_J_if (fun _ => ?_) (fun hc => absurd (by decide) hc)
          refine m_J_run hM 1 rfl ⟨trivial, trivial⟩ ?_
          exact m_iret hM rfl rfl (k_z_nar _) (Nat.le_of_ble_eq_true rfl) (Nat.le_of_ble_eq_true rfl) (by rw [h0]; rfl) (rfl)
        | true =>
          refine m_J_run hM 1 rfl ⟨trivial, trivial⟩ ?_
          refine m_J_if (fun hc => absurd hc (by decide)) (fun _ => ?_)
          refine m_J_run hM 2 rfl ⟨trivial, trivial, trivial⟩ ?_
          refine m_cT0 hM rfl kw_X9_135 rfl rfl hsi (s_length hsi) (Nat.le_of_ble_eq_true rfl) ?_
          refine m_J_run hM 1 rfl ⟨trivial, trivial⟩ ?_
          refine m_J_if (fun hc => absurd hc (nI_ge (by omega) (by omega))) (fun _ => ?_)
          refine m_J_run hM 1 rfl ⟨trivial, trivial⟩ ?_
          refine m_J_getf hM rfl rfl (kZ hZ 0 rfl) (rfl) ?_
          refine m_J_run hM 1 rfl ⟨trivial, trivial⟩ ?_
          refine m_J_getf hM rfl rfl (kZ hZ 0 rfl) (rfl) ?_
          refine m_J_run hM 2 rfl ⟨trivial, trivial, trivial⟩ ?_
          rw [nI_add b0 i]
          refine m_baldN hM rfl (kZ hZ 12 rfl) (by omega) (by omega) ?_
          refine m_J_run hM 2 rfl ⟨trivial, trivial, trivial⟩ ?_
          refine m_cT1 hM rfl kw_X9_141 rfl rfl hsi (s_char hsi (by omega)) (Nat.le_of_ble_eq_true rfl) ?_
          have hc := k_isb_eq (hby (b0 + i) (by omega)) (k_txt si hsi i (by omega))
          rw [← k_at_lt (n := en) (by omega)] at hc
          rw [Bool.true_and, k_mtf] at h0
          refine m_J_run hM 1 rfl ⟨trivial, trivial⟩ ?_
          refine m_J_if (fun h2 => ?_) (fun h2 => ?_)
          ·
            rw [if_neg (fun r => h2 (hc.mpr r))] at h0
            refine m_J_run hM 4 rfl ⟨trivial, trivial, trivial, trivial, trivial⟩ ?_
            rw [nI_add i 1]
            exact ih (i + 1) false (by omega) (by rw [h0]; rfl)
          ·
            have h2 := Classical.not_not.mp h2
            rw [if_pos (hc.mp h2)] at h0
            refine m_J_run hM 5 rfl ⟨trivial, trivial, trivial, trivial, trivial, trivial⟩ ?_
            rw [nI_add i 1]
            exact ih (i + 1) true (by omega) (by rw [h0]; rfl)
    exact LP (m_tx si).length 0 true (by omega) rfl
end
