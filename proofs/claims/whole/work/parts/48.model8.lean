/-! THE MODEL: seeks (written by wip/gen_model8.py) -/
def y_us (fz : Nat → Bool) (u : Nat → Int32) (D : Nat → Nat) : Nat → Int32 := fun s => if s < 60 ∧ fz s = true then nI (D (fb_ct fz s)) else u s
theorem y_us_P {fz : Nat → Bool} {u : Nat → Int32} {D : Nat → Nat} {p i : Nat} (h1 : p < 60) (h2 : fz p = true) (h3 : fb_ct fz p = i) : y_us fz u D p = nI (D i) := by unfold y_us; rw [if_pos ⟨h1, h2⟩, h3]
theorem y_us_upd {fz : Nat → Bool} {u : Nat → Int32} {D : Nat → Nat} {p i x : Nat} (h1 : p < 60) (h2 : fz p = true) (h3 : fb_ct fz p = i) : upd (y_us fz u D) p (nI x) = y_us fz u (k_uI D i x) := by
  funext s
  by_cases e : s = p
  · rw [e, pk_us, y_us_P h1 h2 h3, k_uI, if_pos rfl]
  · rw [pk_un e]
    unfold y_us
    by_cases h : s < 60 ∧ fz s = true
    · rw [if_pos h, if_pos h, k_uI, if_neg (fun q => e (fb_ct_kth_one h.2 h2 (by rw [q, h3])))]
    · rw [if_neg h, if_neg h]
theorem y_fb_lt {fz : Nat → Bool} {s : Nat} (h1 : s < 60) (h2 : fz s = true) : fb_ct fz s < fb_ct fz 60 := by
  have h3 : fb_ct fz (s + 1) = fb_ct fz s + 1 := by rw [fb_ct_succ, h2]; rfl
  have h4 := fb_ct_mono fz (show s + 1 ≤ 60 by omega)
  omega
theorem y_us_cong {fz : Nat → Bool} {u : Nat → Int32} {D D2 : Nat → Nat} {n : Nat} (hn : fb_ct fz 60 = n) (h : ∀ i, i < n → D i = D2 i) : y_us fz u D = y_us fz u D2 := by
  funext s
  unfold y_us
  by_cases h0 : s < 60 ∧ fz s = true
  · rw [if_pos h0, if_pos h0, h _ (by rw [← hn]; exact y_fb_lt h0.1 h0.2)]
  · rw [if_neg h0, if_neg h0]
theorem y_us_id {fz : Nat → Bool} {u : Nat → Int32} {U P : Nat → Nat} {n : Nat} (hn : fb_ct fz 60 = n) (hu : ∀ s, s < 60 → u s = nI (U s)) (hP : ∀ i, i < n → P i < 60 ∧ fz (P i) = true ∧ fb_ct fz (P i) = i) : y_us fz u (fun i => U (P i)) = u := by
  funext s
  unfold y_us
  by_cases h0 : s < 60 ∧ fz s = true
  · rw [if_pos h0]
    show nI (U (P (fb_ct fz s))) = u s
    obtain ⟨h1, h2, h3⟩ := hP (fb_ct fz s) (by rw [← hn]; exact y_fb_lt h0.1 h0.2)
    rw [hu s h0.1, fb_ct_kth_one h2 h0.2 h3]
  · rw [if_neg h0]
def y_dg (n c i : Nat) : Nat := 1 + c / 4 ^ (n - 1 - i) % 4
theorem y_dg_b (n c i : Nat) : 1 ≤ y_dg n c i ∧ y_dg n c i < 5 := by unfold y_dg; omega
def y_odB (n c m : Nat) : Bool := !(k_all (fun j => decide (y_dg n c (n - j - 1) = 4)) m) || decide (y_dg n c (n - m - 1) = 4) || (decide (c + 1 < 4 ^ n) && k_all (fun i => decide (y_dg n (c + 1) i = if i = n - m - 1 then y_dg n c (n - m - 1) + 1 else if i < n - m then y_dg n c i else 1)) n)
def y_odC (n c : Nat) : Bool := !(k_all (fun j => decide (y_dg n c (n - j - 1) = 4)) n) || decide (c + 1 = 4 ^ n)
set_option maxRecDepth 100000 in
theorem y_od0 : ∀ n, n < 6 → k_all (fun c => k_all (y_odB n c) n && y_odC n c) (4 ^ n) = true := by decide +kernel
theorem y_od1 (n : Nat) (hn : n < 6) (c : Nat) (hc : c < 4 ^ n) (m : Nat) (hm : m < n) (h : ∀ j, j < m → y_dg n c (n - j - 1) = 4) (h2 : ¬ y_dg n c (n - m - 1) = 4) : c + 1 < 4 ^ n ∧ ∀ i, i < n → y_dg n (c + 1) i = if i = n - m - 1 then y_dg n c (n - m - 1) + 1 else if i < n - m then y_dg n c i else 1 := by
  have h3 := k_all_iff.mp (y_od0 n hn) c hc
  rw [Bool.and_eq_true] at h3
  have h4 := k_all_iff.mp h3.1 m hm
  rw [y_odB, k_all_iff.mpr (fun j hj => decide_eq_true (h j hj)), decide_eq_false h2] at h4
  simp only [Bool.not_true, Bool.false_or, Bool.and_eq_true, decide_eq_true_eq] at h4
  exact ⟨h4.1, fun i hi => of_decide_eq_true (k_all_iff.mp h4.2 i hi)⟩
theorem y_od2 (n : Nat) (hn : n < 6) (c : Nat) (hc : c < 4 ^ n) (h : ∀ j, j < n → y_dg n c (n - j - 1) = 4) : c + 1 = 4 ^ n := by
  have h3 := k_all_iff.mp (y_od0 n hn) c hc
  rw [Bool.and_eq_true] at h3
  have h4 := h3.2
  rw [y_odC, k_all_iff.mpr (fun j hj => decide_eq_true (h j hj))] at h4
  exact of_decide_eq_true h4
theorem y_DM {n k : Nat} (D : Nat → Nat) (h : k < n) : k_uI (fun i => if i < n - k then D i else 1) (n - k - 1) 1 = fun i => if i < n - (k + 1) then D i else 1 := by
  funext i
  unfold k_uI
  by_cases h6 : i = n - k - 1
  · rw [if_pos h6, if_neg (by omega)]
  · rw [if_neg h6]
    show (if i < n - k then D i else 1) = _
    by_cases h7 : i < n - k
    · rw [if_pos h7, if_pos (by omega)]
    · rw [if_neg h7, if_neg (by omega)]
def y_sm (S : Nat → Nat → Int32) (B : Nat → Nat → Nat → Nat → Int32) (b : Int32) (D : Nat → Nat) : Nat → Int32
  | 0 => b
  | i + 1 => k_acc (y_sm S B b D i + S i (D i)) (fun j => B i j (D i) (D j)) i
def y_bs (ho : Nat → Bool) (sm : Nat → Int32) (dg : Nat → Nat → Nat) (b : Int32) : Nat → Bool × Int32 × (Nat → Nat)
  | 0 => (false, b, fun _ => 0)
  | c + 1 => if ((y_bs ho sm dg b c).1 = false ∨ ¬ sm c ≤ (y_bs ho sm dg b c).2.1) ∧ ho c = true then (true, sm c, dg c) else y_bs ho sm dg b c
def y_SF (aK aO aT aW aS so : Nat → Int32) (ls : Nat) (fz : Nat → Bool) (u : Nat → Int32) (P : Nat → Nat) : Nat → Nat → Int32 := fun a b => y_s0 aK aO aT aW aS so fz u (P a) b ls
def y_BF (aK aO aT aW aS : Nat → Int32) (ls : Nat) (P : Nat → Nat) : Nat → Nat → Nat → Nat → Int32 := fun a b c e => y_b0 aK aO aT aW aS (P a) (P b) c e ls
/-- do all laws hold but x, the free squares being D -/
def y_ho (K : Nat → Nat) (aO aT aS aL : Nat → Int32) (ls : Nat) (fz : Nat → Bool) (u : Nat → Int32) (x : Int32) (D : Nat → Nat) : Bool := k_all (fun k => decide (nI k = x) || y_hb (K k) aO aT aS aL (y_us fz u D) k) ls
def y_sc (aK aO aT aW aS so : Nat → Int32) (ls : Nat) (fz : Nat → Bool) (u : Nat → Int32) (P : Nat → Nat) (n : Nat) (D : Nat → Nat) : Int32 := y_sm (y_SF aK aO aT aW aS so ls fz u P) (y_BF aK aO aT aW aS ls P) (y_ot aK aO aT aW aS so fz u ls) D n
def y_sk (K : Nat → Nat) (aK aO aT aW aS aL so : Nat → Int32) (ls : Nat) (fz : Nat → Bool) (u : Nat → Int32) (P : Nat → Nat) (n : Nat) (x b : Int32) : Nat → Bool × Int32 × (Nat → Nat) := y_bs (fun c => y_ho K aO aT aS aL ls fz u x (y_dg n c)) (fun c => y_sc aK aO aT aW aS so ls fz u P n (y_dg n c)) (y_dg n) b
theorem y_sk_s (K : Nat → Nat) (aK aO aT aW aS aL so : Nat → Int32) (ls : Nat) (fz : Nat → Bool) (u : Nat → Int32) (P : Nat → Nat) (n : Nat) (x b : Int32) (c : Nat) : y_sk K aK aO aT aW aS aL so ls fz u P n x b (c + 1) = if ((y_sk K aK aO aT aW aS aL so ls fz u P n x b c).1 = false ∨ ¬ y_sc aK aO aT aW aS so ls fz u P n (y_dg n c) ≤ (y_sk K aK aO aT aW aS aL so ls fz u P n x b c).2.1) ∧ y_ho K aO aT aS aL ls fz u x (y_dg n c) = true then (true, y_sc aK aO aT aW aS so ls fz u P n (y_dg n c), y_dg n c) else y_sk K aK aO aT aW aS aL so ls fz u P n x b c := rfl
def k_upN (g f : Nat → Nat) (i : Nat) : Nat → Nat := fun j => if j < i then g j else f j
theorem k_upN_0 (g f : Nat → Nat) : k_upN g f 0 = f := by funext j; simp [k_upN]
theorem k_upN_s (g f : Nat → Nat) (i : Nat) : k_uI (k_upN g f i) i (g i) = k_upN g f (i + 1) := by
  funext j
  unfold k_uI k_upN
  by_cases h : j = i
  · subst h; simp
  · rw [if_neg h]
    by_cases h2 : j < i
    · rw [if_pos h2, if_pos (by omega)]
    · rw [if_neg h2, if_neg (by omega)]
section
variable {l : Launch} {E : mE} {N : Nat} {xs : Nat → Int32} {d : Nat} {tg : Bool} {Z : mH} {h : mH}
variable {th : Int32} {u : Nat → Int32} {so : Nat → Int32} {fz : Nat → Bool} {fs : Nat} {gt : Nat} {yr : Nat} {aK : Nat → Int32} {aO : Nat → Int32} {aT : Nat → Int32} {aH : Nat → Int32} {aW : Nat → Int32} {aS : Nat → Int32} {aL : Nat → Int32} {ls : Nat} {pl : Nat → Int32} {ps : Nat} {tp : Nat → Int32} {td : Nat} {pt : Nat} {en : Nat} {bg : Nat} {fa : Int32} {fv : Nat → Int32} {mt : Nat → Bool} {nx : Nat → Int32} {pL : Nat → Nat} {sg : Nat → Int32} {bo : Nat → Int32} {wa : Nat → Int32} {gv : Nat → Int32} {bw : Int32} {of : Nat → Int32} {o : mH}
set_option maxHeartbeats 8000000 in
theorem y_seeks (hZ : Z.length = 70) {K U : Nat → Nat} {x : Int32} (hls : ls ≤ 14) (hK : ∀ k, k < ls → K k ≤ 6 ∧ aK k = nI (K k)) (hfs : fb_ct fz 60 = fs) (hf5 : fs ≤ 5) (hu : ∀ s, s < 60 → u s = nI (U s)) : m_Sp l (m_EX E N xs) E mM_X9_seeks (d + 4) 0 0 [.ref 70, .int x] (Z ++ k_M th u so fz fs gt yr aK aO aT aH aW aS aL ls pl ps tp td pt en bg fa fv mt nx pL sg bo wa gv bw of o) tg (fun v H tg' => tg' = tg ∧ (v = some (.int (k_z (y_sk K aK aO aT aW aS aL so ls fz u (y_pp fz pL 60) fs x bw (4 ^ fs)).1)) ∧ ∃ (q r w g : Nat → Int32) (m : Nat → Bool), ((y_sk K aK aO aT aW aS aL so ls fz u (y_pp fz pL 60) fs x bw (4 ^ fs)).1 = true → ∀ i, i < fs → g i = nI ((y_sk K aK aO aT aW aS aL so ls fz u (y_pp fz pL 60) fs x bw (4 ^ fs)).2.2 i)) ∧ H = (Z ++ k_M th u so fz fs gt yr aK aO aT aH aW aS aL ls pl ps tp td pt en bg fa fv m nx (y_pp fz pL 60) q r w g ((y_sk K aK aO aT aW aS aL so ls fz u (y_pp fz pL 60) fs x bw (4 ^ fs)).2.1) of o))) m_no := by
  have hM := mM_X9_seeks_ok
  refine m_Sp_of (by decide) (Nat.le_of_ble_eq_true rfl) ?_
  refine m_J_run hM 1 rfl ⟨trivial, trivial⟩ ?_
  refine m_cVp0 hZ hM rfl kw_X9_254 rfl rfl rfl (y_weighs hZ hls (by omega)) (Nat.le_of_ble_eq_true rfl) (fun v9 h9 hp9 => ?_)
  obtain ⟨rfl, q1, r1, hq1, hr1, rfl⟩ := hp9
  refine ⟨k_le rfl, ?_⟩
  refine m_J_run hM 1 rfl ⟨trivial, trivial⟩ ?_
  refine m_cV0 hZ hM rfl kw_X9_257 rfl rfl rfl (y_others hZ hls) rfl (Nat.le_of_ble_eq_true rfl) ?_
  refine m_J_run hM 3 rfl ⟨trivial, trivial, trivial, trivial⟩ ?_
  rw [hfs] at hq1 hr1
  have hP := y_pp_lt fz pL 60
  rw [hfs] at hP
  generalize y_pp fz pL 60 = P at hq1 hr1 hP ⊢
  have hq1 : y_sgI (y_SF aK aO aT aW aS so ls fz u P) q1 fs 0 := hq1
  have hr1 : y_boI (y_BF aK aO aT aW aS ls P) r1 fs 0 0 0 := hr1
  generalize hb0 : y_ot aK aO aT aW aS so fz u ls = base
  have LP : ∀ (n9 i : Nat) (w : Nat → Int32), i + n9 = fs → (∀ j, j < i → w j = nI (U (P j))) → m_J l (m_EX E N xs) E mM_X9_seeks (d + 4) 0 0 (fun v H tg' => tg' = tg ∧ (v = some (.int (k_z (y_sk K aK aO aT aW aS aL so ls fz u P fs x bw (4 ^ fs)).1)) ∧ ∃ (q r w g : Nat → Int32) (m : Nat → Bool), ((y_sk K aK aO aT aW aS aL so ls fz u P fs x bw (4 ^ fs)).1 = true → ∀ i, i < fs → g i = nI ((y_sk K aK aO aT aW aS aL so ls fz u P fs x bw (4 ^ fs)).2.2 i)) ∧ H = (Z ++ k_M th u so fz fs gt yr aK aO aT aH aW aS aL ls pl ps tp td pt en bg fa fv m nx P q r w g ((y_sk K aK aO aT aW aS aL so ls fz u P fs x bw (4 ^ fs)).2.1) of o))) m_no tg 0 0 (11, [some (.ref 70), some (.int x), some (.int base), some (.int (nI i)), none, none, none, none], [], (Z ++ k_M th (y_us fz u (k_upN (fun _ => 1) (fun i => U (P i)) i)) so fz fs gt yr aK aO aT aH aW aS aL ls pl ps tp td pt en bg fa fv mt nx P q1 r1 w gv bw of o)) := by
    intro n9
    induction n9 with
    | zero =>
      intro i w hi hw
      have e9 : i = fs := by omega
      rw [e9] at hw ⊢
      refine m_J_run hM 2 rfl ⟨trivial, trivial, trivial⟩ ?_
      refine m_J_getf hM rfl rfl (kZ hZ 0 rfl) (rfl) ?_
      refine m_J_run hM 1 rfl ⟨trivial, trivial⟩ ?_
      refine m_J_if (fun _ => ?_) (fun hc => absurd (nI_le (by omega) (by omega)) hc)
      refine m_J_run hM 4 rfl ⟨trivial, trivial, trivial, trivial, trivial⟩ ?_
      have hu1 : y_us fz u (k_upN (fun _ => 1) (fun i => U (P i)) fs) = y_us fz u (y_dg fs 0) := y_us_cong hfs (fun i hi => by rw [k_upN, if_pos hi]; unfold y_dg; rw [Nat.zero_div])
      rw [hu1]
      have LR : ∀ (R2 : Bool × Int32 × (Nat → Nat)) (D : Nat → Nat) (q : Nat → Int32) (m : Nat → Bool) (w5 w6 w7 : Option Value), y_sk K aK aO aT aW aS aL so ls fz u P fs x bw (4 ^ fs) = R2 → (R2.1 = true → ∀ i, i < fs → q i = nI (R2.2.2 i)) → m_J l (m_EX E N xs) E mM_X9_seeks (d + 4) 0 0 (fun v H tg' => tg' = tg ∧ (v = some (.int (k_z (y_sk K aK aO aT aW aS aL so ls fz u P fs x bw (4 ^ fs)).1)) ∧ ∃ (q r w g : Nat → Int32) (m : Nat → Bool), ((y_sk K aK aO aT aW aS aL so ls fz u P fs x bw (4 ^ fs)).1 = true → ∀ i, i < fs → g i = nI ((y_sk K aK aO aT aW aS aL so ls fz u P fs x bw (4 ^ fs)).2.2 i)) ∧ H = (Z ++ k_M th u so fz fs gt yr aK aO aT aH aW aS aL ls pl ps tp td pt en bg fa fv m nx P q r w g ((y_sk K aK aO aT aW aS aL so ls fz u P fs x bw (4 ^ fs)).2.1) of o))) m_no tg 0 0 (319, [some (.ref 70), some (.int x), some (.int base), some (.int (k_z R2.1)), some (.int (nI 0)), w5, w6, w7], [], (Z ++ k_M th (y_us fz u D) so fz fs gt yr aK aO aT aH aW aS aL ls pl ps tp td pt en bg fa fv m nx P q1 r1 w q R2.2.1 of o)) := by
        intro R2 D q m w5 w6 w7 hR2 hg
        refine m_J_run hM 2 rfl ⟨trivial, trivial, trivial⟩ ?_
        have LZ : ∀ (z9 i : Nat), i + z9 = fs → m_J l (m_EX E N xs) E mM_X9_seeks (d + 4) 0 0 (fun v H tg' => tg' = tg ∧ (v = some (.int (k_z (y_sk K aK aO aT aW aS aL so ls fz u P fs x bw (4 ^ fs)).1)) ∧ ∃ (q r w g : Nat → Int32) (m : Nat → Bool), ((y_sk K aK aO aT aW aS aL so ls fz u P fs x bw (4 ^ fs)).1 = true → ∀ i, i < fs → g i = nI ((y_sk K aK aO aT aW aS aL so ls fz u P fs x bw (4 ^ fs)).2.2 i)) ∧ H = (Z ++ k_M th u so fz fs gt yr aK aO aT aH aW aS aL ls pl ps tp td pt en bg fa fv m nx P q r w g ((y_sk K aK aO aT aW aS aL so ls fz u P fs x bw (4 ^ fs)).2.1) of o))) m_no tg 0 0 (322, [some (.ref 70), some (.int x), some (.int base), some (.int (k_z R2.1)), some (.int (nI 0)), some (.int (nI i)), w6, w7], [], (Z ++ k_M th (y_us fz u (k_upN (fun i => U (P i)) D i)) so fz fs gt yr aK aO aT aH aW aS aL ls pl ps tp td pt en bg fa fv m nx P q1 r1 w q R2.2.1 of o)) := by
          intro z9
          induction z9 with
          | zero =>
            intro i  hz 
            have e9 : i = fs := by omega
            rw [e9]
            refine m_J_run hM 2 rfl ⟨trivial, trivial, trivial⟩ ?_
            refine m_J_getf hM rfl rfl (kZ hZ 0 rfl) (rfl) ?_
            refine m_J_run hM 1 rfl ⟨trivial, trivial⟩ ?_
            refine m_J_if (fun _ => ?_) (fun hc => absurd (nI_le (by omega) (by omega)) hc)
            refine m_J_run hM 1 rfl ⟨trivial, trivial⟩ ?_
            rw [y_us_cong (D := k_upN (fun i => U (P i)) D fs) (D2 := (fun i => U (P i))) hfs (fun i hi => by rw [k_upN, if_pos hi]), y_us_id hfs hu hP]
            exact m_J_iret hM rfl rfl (k_z_nar _) (Nat.le_of_ble_eq_true rfl) (Nat.le_of_ble_eq_true rfl) (⟨rfl, by rw [hR2], q1, r1, w, q, m, by rw [hR2]; exact hg, by rw [hR2]⟩)
          | succ z9 ihz =>
            intro i  hz 
            have hpi := (hP i (by omega)).1
            refine m_J_run hM 2 rfl ⟨trivial, trivial, trivial⟩ ?_
            refine m_J_getf hM rfl rfl (kZ hZ 0 rfl) (rfl) ?_
            refine m_J_run hM 1 rfl ⟨trivial, trivial⟩ ?_
            refine m_J_if (fun hc => absurd hc (nI_ge (by omega) (by omega))) (fun _ => ?_)
            refine m_J_run hM 1 rfl ⟨trivial, trivial⟩ ?_
            refine m_J_getf hM rfl rfl (kZ hZ 0 rfl) (rfl) ?_
            refine m_J_run hM 1 rfl ⟨trivial, trivial⟩ ?_
            refine m_J_getf hM rfl rfl (kZ hZ 0 rfl) (rfl) ?_
            refine m_J_run hM 1 rfl ⟨trivial, trivial⟩ ?_
            refine m_ialdN hM rfl (kZ hZ 16 rfl) (by omega) (by omega) ?_
            refine m_J_run hM 1 rfl ⟨trivial, trivial⟩ ?_
            refine m_J_getf hM rfl rfl (kZ hZ 0 rfl) (rfl) ?_
            refine m_J_run hM 1 rfl ⟨trivial, trivial⟩ ?_
            refine m_ialdN hM rfl (kZ hZ 19 rfl) (by omega) (by omega) ?_
            rw [hw i (by omega)]
            refine m_iastN hM rfl (kZ hZ 1 rfl) (by omega) (by omega) ?_
            refine m_J_eqH (H' := (Z ++ k_M th (upd (y_us fz u (k_upN (fun i => U (P i)) D i)) (P i) (nI (U (P i)))) so fz fs gt yr aK aO aT aH aW aS aL ls pl ps tp td pt en bg fa fv m nx P q1 r1 w q R2.2.1 of o)) (kZs hZ 1 (rfl)) ?_
            refine m_J_run hM 2 rfl ⟨trivial, trivial, trivial⟩ ?_
            rw [nI_add i 1]
            rw [show (upd (y_us fz u (k_upN (fun i => U (P i)) D i)) (P i) (nI (U (P i)))) = y_us fz u (k_upN (fun i => U (P i)) D (i + 1)) from (y_us_upd (hP i (by omega)).1 (hP i (by omega)).2.1 (hP i (by omega)).2.2).trans (by rw [k_upN_s])]
            have h9 := ihz (i + 1) (by omega)
            exact h9
        have h9 := LZ fs 0 (by omega)
        rw [k_upN_0] at h9
        exact h9
      have SW : ∀ (c : Nat), c < 4 ^ fs → (c + 1 < 4 ^ fs → ∀ (q : Nat → Int32) (m : Nat → Bool) (w5 w6 w7 : Option Value), ((y_sk K aK aO aT aW aS aL so ls fz u P fs x bw (c + 1)).1 = true → ∀ i, i < fs → q i = nI ((y_sk K aK aO aT aW aS aL so ls fz u P fs x bw (c + 1)).2.2 i)) → m_J l (m_EX E N xs) E mM_X9_seeks (d + 4) 0 0 (fun v H tg' => tg' = tg ∧ (v = some (.int (k_z (y_sk K aK aO aT aW aS aL so ls fz u P fs x bw (4 ^ fs)).1)) ∧ ∃ (q r w g : Nat → Int32) (m : Nat → Bool), ((y_sk K aK aO aT aW aS aL so ls fz u P fs x bw (4 ^ fs)).1 = true → ∀ i, i < fs → g i = nI ((y_sk K aK aO aT aW aS aL so ls fz u P fs x bw (4 ^ fs)).2.2 i)) ∧ H = (Z ++ k_M th u so fz fs gt yr aK aO aT aH aW aS aL ls pl ps tp td pt en bg fa fv m nx P q r w g ((y_sk K aK aO aT aW aS aL so ls fz u P fs x bw (4 ^ fs)).2.1) of o))) m_no tg 0 0 (59, [some (.ref 70), some (.int x), some (.int base), some (.int (k_z ((y_sk K aK aO aT aW aS aL so ls fz u P fs x bw (c + 1)).1))), some (.int (nI 1)), w5, w6, w7], [], (Z ++ k_M th (y_us fz u (y_dg fs (c + 1))) so fz fs gt yr aK aO aT aH aW aS aL ls pl ps tp td pt en bg fa fv m nx P q1 r1 w q ((y_sk K aK aO aT aW aS aL so ls fz u P fs x bw (c + 1)).2.1) of o))) → ∀ (q : Nat → Int32) (m : Nat → Bool) (w5 w6 w7 : Option Value), ((y_sk K aK aO aT aW aS aL so ls fz u P fs x bw c).1 = true → ∀ i, i < fs → q i = nI ((y_sk K aK aO aT aW aS aL so ls fz u P fs x bw c).2.2 i)) → m_J l (m_EX E N xs) E mM_X9_seeks (d + 4) 0 0 (fun v H tg' => tg' = tg ∧ (v = some (.int (k_z (y_sk K aK aO aT aW aS aL so ls fz u P fs x bw (4 ^ fs)).1)) ∧ ∃ (q r w g : Nat → Int32) (m : Nat → Bool), ((y_sk K aK aO aT aW aS aL so ls fz u P fs x bw (4 ^ fs)).1 = true → ∀ i, i < fs → g i = nI ((y_sk K aK aO aT aW aS aL so ls fz u P fs x bw (4 ^ fs)).2.2 i)) ∧ H = (Z ++ k_M th u so fz fs gt yr aK aO aT aH aW aS aL ls pl ps tp td pt en bg fa fv m nx P q r w g ((y_sk K aK aO aT aW aS aL so ls fz u P fs x bw (4 ^ fs)).2.1) of o))) m_no tg 0 0 (59, [some (.ref 70), some (.int x), some (.int base), some (.int (k_z ((y_sk K aK aO aT aW aS aL so ls fz u P fs x bw c).1))), some (.int (nI 1)), w5, w6, w7], [], (Z ++ k_M th (y_us fz u (y_dg fs c)) so fz fs gt yr aK aO aT aH aW aS aL ls pl ps tp td pt en bg fa fv m nx P q1 r1 w q ((y_sk K aK aO aT aW aS aL so ls fz u P fs x bw c).2.1) of o)) := by
        intro c hc K9 q m w5 w6 w7 hg
        have hs9 := y_sk_s K aK aO aT aW aS aL so ls fz u P fs x bw c
        have ho1 := y_od1 fs (by omega) c hc
        have ho2 := y_od2 fs (by omega) c hc
        have hD := y_dg_b fs c
        generalize hR : y_sk K aK aO aT aW aS aL so ls fz u P fs x bw c = R at hg hs9 ⊢
        generalize y_dg fs c = D at hs9 ho1 ho2 hD ⊢
        have T2 : ∀ (R2 : Bool × Int32 × (Nat → Nat)) (q : Nat → Int32) (m : Nat → Bool) (y5 : Int32) (w6 w7 : Option Value), y_sk K aK aO aT aW aS aL so ls fz u P fs x bw (c + 1) = R2 → (R2.1 = true → ∀ i, i < fs → q i = nI (R2.2.2 i)) → m_J l (m_EX E N xs) E mM_X9_seeks (d + 4) 0 0 (fun v H tg' => tg' = tg ∧ (v = some (.int (k_z (y_sk K aK aO aT aW aS aL so ls fz u P fs x bw (4 ^ fs)).1)) ∧ ∃ (q r w g : Nat → Int32) (m : Nat → Bool), ((y_sk K aK aO aT aW aS aL so ls fz u P fs x bw (4 ^ fs)).1 = true → ∀ i, i < fs → g i = nI ((y_sk K aK aO aT aW aS aL so ls fz u P fs x bw (4 ^ fs)).2.2 i)) ∧ H = (Z ++ k_M th u so fz fs gt yr aK aO aT aH aW aS aL ls pl ps tp td pt en bg fa fv m nx P q r w g ((y_sk K aK aO aT aW aS aL so ls fz u P fs x bw (4 ^ fs)).2.1) of o))) m_no tg 0 0 (235, [some (.ref 70), some (.int x), some (.int base), some (.int (k_z R2.1)), some (.int (nI 1)), some (.int y5), w6, w7], [], (Z ++ k_M th (y_us fz u D) so fz fs gt yr aK aO aT aH aW aS aL ls pl ps tp td pt en bg fa fv m nx P q1 r1 w q R2.2.1 of o)) := by
          intro R2 q m y5 w6 w7 hR2 hg2
          refine m_J_run hM 1 rfl ⟨trivial, trivial⟩ ?_
          refine m_J_getf hM rfl rfl (kZ hZ 0 rfl) (rfl) ?_
          refine m_J_run hM 3 rfl ⟨trivial, trivial, trivial, trivial⟩ ?_
          have LO : ∀ (o9 k : Nat), k + o9 = fs → (∀ j, j < k → D (fs - j - 1) = 4) → m_J l (m_EX E N xs) E mM_X9_seeks (d + 4) 0 0 (fun v H tg' => tg' = tg ∧ (v = some (.int (k_z (y_sk K aK aO aT aW aS aL so ls fz u P fs x bw (4 ^ fs)).1)) ∧ ∃ (q r w g : Nat → Int32) (m : Nat → Bool), ((y_sk K aK aO aT aW aS aL so ls fz u P fs x bw (4 ^ fs)).1 = true → ∀ i, i < fs → g i = nI ((y_sk K aK aO aT aW aS aL so ls fz u P fs x bw (4 ^ fs)).2.2 i)) ∧ H = (Z ++ k_M th u so fz fs gt yr aK aO aT aH aW aS aL ls pl ps tp td pt en bg fa fv m nx P q r w g ((y_sk K aK aO aT aW aS aL so ls fz u P fs x bw (4 ^ fs)).2.1) of o))) m_no tg 0 0 (243, [some (.ref 70), some (.int x), some (.int base), some (.int (k_z R2.1)), some (.int (nI 1)), some (.int y5), some (.int (nI (fs - k) - nI 1)), w7], [], (Z ++ k_M th (y_us fz u (fun i => if i < fs - k then D i else 1)) so fz fs gt yr aK aO aT aH aW aS aL ls pl ps tp td pt en bg fa fv m nx P q1 r1 w q R2.2.1 of o)) := by
            intro o9
            induction o9 with
            | zero =>
              intro k  hk h4
              have e9 : k = fs := by omega
              rw [e9] at h4 ⊢
              rw [Nat.sub_self]
              refine m_J_run hM 2 rfl ⟨trivial, trivial, trivial⟩ ?_
              refine m_J_if (fun _ => ?_) (fun hc => absurd (by decide) hc)
              refine m_J_run hM 2 rfl ⟨trivial, trivial, trivial⟩ ?_
              refine m_J_if (fun _ => ?_) (fun hc => absurd (by decide) hc)
              refine m_J_run hM 4 rfl ⟨trivial, trivial, trivial, trivial, trivial⟩ ?_
              refine m_J_if (fun _ => ?_) (fun hc => absurd (by first | decide | (rw [show 0 = 0 by omega]; decide)) hc)
              refine m_J_run hM 2 rfl ⟨trivial, trivial, trivial⟩ ?_
              refine m_J_run hM 1 rfl ⟨trivial, trivial⟩ ?_
              refine m_J_if (fun _ => ?_) (fun hc => absurd (by first | decide | (rw [show 0 = 0 by omega]; decide)) hc)
              exact LR R2 _ q m _ _ _ (by rw [← ho2 h4]; exact hR2) hg2
            | succ o9 iho =>
              intro k  hk h4
              rw [show nI (fs - k) - nI 1 = nI (fs - k - 1) from pk_sub (by omega)]
              have hdk := hD (fs - k - 1)
              have hpi := (hP (fs - k - 1) (by omega)).1
              refine m_J_run hM 2 rfl ⟨trivial, trivial, trivial⟩ ?_
              refine m_J_if (fun hc => absurd hc (nI_pos (by omega))) (fun _ => ?_)
              refine m_J_run hM 1 rfl ⟨trivial, trivial⟩ ?_
              refine m_J_getf hM rfl rfl (kZ hZ 0 rfl) (rfl) ?_
              refine m_J_run hM 1 rfl ⟨trivial, trivial⟩ ?_
              refine m_J_getf hM rfl rfl (kZ hZ 0 rfl) (rfl) ?_
              refine m_J_run hM 1 rfl ⟨trivial, trivial⟩ ?_
              refine m_ialdN hM rfl (kZ hZ 16 rfl) (by omega) (by omega) ?_
              refine m_ialdN hM rfl (kZ hZ 1 rfl) (by omega) (by omega) ?_
              rw [y_us_P (i := fs - k - 1) (hP (fs - k - 1) (by omega)).1 (hP (fs - k - 1) (by omega)).2.1 (hP (fs - k - 1) (by omega)).2.2, if_pos (by omega)]
              refine m_J_run hM 1 rfl ⟨trivial, trivial⟩ ?_
              refine m_J_run hM 1 rfl ⟨trivial, trivial⟩ ?_
              refine m_J_if (fun h5 => ?_) (fun h5 => ?_)
              ·
                rw [nI_eq (by omega) (by omega)] at h5
                obtain ⟨h6, h7⟩ := ho1 k (by omega) h4 h5
                refine m_J_run hM 2 rfl ⟨trivial, trivial, trivial⟩ ?_
                refine m_J_if (fun hc => absurd hc (nI_pos (by omega))) (fun _ => ?_)
                refine m_J_run hM 5 rfl ⟨trivial, trivial, trivial, trivial, trivial, trivial⟩ ?_
                refine m_J_if (fun hc => absurd hc (nI_ne0 (by omega) (by omega))) (fun _ => ?_)
                refine m_J_run hM 1 rfl ⟨trivial, trivial⟩ ?_
                refine m_J_getf hM rfl rfl (kZ hZ 0 rfl) (rfl) ?_
                refine m_J_run hM 1 rfl ⟨trivial, trivial⟩ ?_
                refine m_J_getf hM rfl rfl (kZ hZ 0 rfl) (rfl) ?_
                refine m_J_run hM 1 rfl ⟨trivial, trivial⟩ ?_
                refine m_ialdN hM rfl (kZ hZ 16 rfl) (by omega) (by omega) ?_
                refine m_J_run hM 1 rfl ⟨trivial, trivial⟩ ?_
                refine m_ialdN hM rfl (kZ hZ 1 rfl) (by omega) (by omega) ?_
                rw [y_us_P (i := fs - k - 1) (hP (fs - k - 1) (by omega)).1 (hP (fs - k - 1) (by omega)).2.1 (hP (fs - k - 1) (by omega)).2.2, if_pos (by omega)]
                refine m_J_run hM 2 rfl ⟨trivial, trivial, trivial⟩ ?_
                rw [nI_add (D (fs - k - 1)) 1]
                refine m_iastN hM rfl (kZ hZ 1 rfl) (by omega) (by omega) ?_
                refine m_J_eqH (H' := (Z ++ k_M th (upd (y_us fz u (fun i => if i < fs - k then D i else 1)) (P (fs - k - 1)) (nI ((D (fs - k - 1)) + 1))) so fz fs gt yr aK aO aT aH aW aS aL ls pl ps tp td pt en bg fa fv m nx P q1 r1 w q R2.2.1 of o)) (kZs hZ 1 (rfl)) ?_
                refine m_J_run hM 1 rfl ⟨trivial, trivial⟩ ?_
                rw [show (upd (y_us fz u (fun i => if i < fs - k then D i else 1)) (P (fs - k - 1)) (nI ((D (fs - k - 1)) + 1))) = y_us fz u (y_dg fs (c + 1)) from (y_us_upd (hP (fs - k - 1) (by omega)).1 (hP (fs - k - 1) (by omega)).2.1 (hP (fs - k - 1) (by omega)).2.2).trans (y_us_cong hfs (fun i hi => by rw [h7 i hi, k_uI]))]
                have h9 := K9 h6 q m (some (.int y5)) (some (.int (nI (fs - k - 1)))) w7 (by rw [hR2]; exact hg2)
                rw [hR2] at h9
                exact h9
              ·
                rw [nI_eq (by omega) (by omega)] at h5
                have h5 := Classical.not_not.mp h5
                refine m_J_run hM 1 rfl ⟨trivial, trivial⟩ ?_
                refine m_J_getf hM rfl rfl (kZ hZ 0 rfl) (rfl) ?_
                refine m_J_run hM 1 rfl ⟨trivial, trivial⟩ ?_
                refine m_J_getf hM rfl rfl (kZ hZ 0 rfl) (rfl) ?_
                refine m_J_run hM 1 rfl ⟨trivial, trivial⟩ ?_
                refine m_ialdN hM rfl (kZ hZ 16 rfl) (by omega) (by omega) ?_
                refine m_J_run hM 1 rfl ⟨trivial, trivial⟩ ?_
                refine m_iastN hM rfl (kZ hZ 1 rfl) (by omega) (by omega) ?_
                refine m_J_eqH (H' := (Z ++ k_M th (upd (y_us fz u (fun i => if i < fs - k then D i else 1)) (P (fs - k - 1)) (nI 1)) so fz fs gt yr aK aO aT aH aW aS aL ls pl ps tp td pt en bg fa fv m nx P q1 r1 w q R2.2.1 of o)) (kZs hZ 1 (rfl)) ?_
                refine m_J_run hM 2 rfl ⟨trivial, trivial, trivial⟩ ?_
                rw [show (upd (y_us fz u (fun i => if i < fs - k then D i else 1)) (P (fs - k - 1)) (nI 1)) = y_us fz u (fun i => if i < fs - (k + 1) then D i else 1) from (y_us_upd (hP (fs - k - 1) (by omega)).1 (hP (fs - k - 1) (by omega)).2.1 (hP (fs - k - 1) (by omega)).2.2).trans (congrArg (y_us fz u) (y_DM D (by omega)))]
                have h9 := iho (k + 1) (by omega) (fun j hj => if e : j = k then by rw [e]; exact h5 else h4 j (by omega))
                rw [show nI (fs - (k + 1)) - nI 1 = nI (fs - k - 1) + -nI 1 by rw [Int32.sub_eq_add_neg, show fs - (k + 1) = fs - k - 1 by omega]] at h9
                exact h9
          have h9 := LO fs 0 (by omega) (fun j hj => absurd hj (by omega))
          rw [y_us_cong (D := (fun i => if i < fs - 0 then D i else 1)) (D2 := D) hfs (fun i hi => if_pos (by omega))] at h9
          exact h9
        refine m_J_run hM 2 rfl ⟨trivial, trivial, trivial⟩ ?_
        refine m_J_if (fun hc => absurd hc (nI_ne0 (by omega) (by omega))) (fun _ => ?_)
        refine m_J_run hM 4 rfl ⟨trivial, trivial, trivial, trivial, trivial⟩ ?_
        have LA : ∀ (a9 i : Nat) (w7 : Option Value), i + a9 = fs → m_J l (m_EX E N xs) E mM_X9_seeks (d + 4) 0 0 (fun v H tg' => tg' = tg ∧ (v = some (.int (k_z (y_sk K aK aO aT aW aS aL so ls fz u P fs x bw (4 ^ fs)).1)) ∧ ∃ (q r w g : Nat → Int32) (m : Nat → Bool), ((y_sk K aK aO aT aW aS aL so ls fz u P fs x bw (4 ^ fs)).1 = true → ∀ i, i < fs → g i = nI ((y_sk K aK aO aT aW aS aL so ls fz u P fs x bw (4 ^ fs)).2.2 i)) ∧ H = (Z ++ k_M th u so fz fs gt yr aK aO aT aH aW aS aL ls pl ps tp td pt en bg fa fv m nx P q r w g ((y_sk K aK aO aT aW aS aL so ls fz u P fs x bw (4 ^ fs)).2.1) of o))) m_no tg 0 0 (70, [some (.ref 70), some (.int x), some (.int base), some (.int (k_z R.1)), some (.int (nI 1)), some (.int (y_sm (y_SF aK aO aT aW aS so ls fz u P) (y_BF aK aO aT aW aS ls P) base D i)), some (.int (nI i)), w7], [], (Z ++ k_M th (y_us fz u D) so fz fs gt yr aK aO aT aH aW aS aL ls pl ps tp td pt en bg fa fv m nx P q1 r1 w q R.2.1 of o)) := by
          intro a9
          induction a9 with
          | zero =>
            intro i w7 ha 
            have e9 : i = fs := by omega
            rw [e9]
            refine m_J_run hM 2 rfl ⟨trivial, trivial, trivial⟩ ?_
            refine m_J_getf hM rfl rfl (kZ hZ 0 rfl) (rfl) ?_
            refine m_J_run hM 1 rfl ⟨trivial, trivial⟩ ?_
            refine m_J_if (fun _ => ?_) (fun hc => absurd (nI_le (by omega) (by omega)) hc)
            refine m_J_run hM 1 rfl ⟨trivial, trivial⟩ ?_
            have hsc : y_sc aK aO aT aW aS so ls fz u P fs D = y_sm (y_SF aK aO aT aW aS so ls fz u P) (y_BF aK aO aT aW aS ls P) base D fs := by rw [y_sc, hb0]
            generalize y_sm (y_SF aK aO aT aW aS so ls fz u P) (y_BF aK aO aT aW aS ls P) base D fs = sc at hsc ⊢
            rw [hsc] at hs9
            cases hR1 : R.1 with
            | false =>
              rw [hR1] at hs9
              refine m_J_run hM 1 rfl ⟨trivial, trivial⟩ ?_
              refine m_J_if (fun _ => ?_) (fun hc => absurd (by decide) hc)
              refine m_J_run hM 2 rfl ⟨trivial, trivial, trivial⟩ ?_
              refine m_cVp1 hZ hM rfl kw_X9_263 rfl rfl rfl (y_allHold hZ hls hK) (Nat.le_of_ble_eq_true rfl) (fun v9 h9 hp9 => ?_)
              obtain ⟨rfl, q200, rfl⟩ := hp9
              refine ⟨k_le rfl, ?_⟩
              rw [show k_all (fun k => decide (nI k = x) || y_hb (K k) aO aT aS aL (y_us fz u D) k) ls = y_ho K aO aT aS aL ls fz u x D from rfl]
              cases hh : y_ho K aO aT aS aL ls fz u x D with
              | false =>
                refine m_J_run hM 1 rfl ⟨trivial, trivial⟩ ?_
                refine m_J_if (fun _ => ?_) (fun hc => absurd (by decide) hc)
                have h9 := T2 R q q200 sc (some (.int (nI fs))) w7 (by rw [hs9, if_neg (fun r => by rw [hh] at r; cases r.2)]) hg
                rw [hR1] at h9
                exact h9
              | true =>
                refine m_J_run hM 1 rfl ⟨trivial, trivial⟩ ?_
                refine m_J_if (fun hc => absurd hc (by decide)) (fun _ => ?_)
                refine m_J_run hM 4 rfl ⟨trivial, trivial, trivial, trivial, trivial⟩ ?_
                refine m_J_putf hM rfl rfl (kZ hZ 0 rfl) (rfl) ?_
                refine m_J_eqH (H' := (Z ++ k_M th (y_us fz u D) so fz fs gt yr aK aO aT aH aW aS aL ls pl ps tp td pt en bg fa fv q200 nx P q1 r1 w q sc of o)) (kZs hZ 0 rfl) ?_
                refine m_J_run hM 2 rfl ⟨trivial, trivial, trivial⟩ ?_
                have LG : ∀ (g9 i : Nat) (q : Nat → Int32), i + g9 = fs → (∀ j, j < i → q j = nI (D j)) → m_J l (m_EX E N xs) E mM_X9_seeks (d + 4) 0 0 (fun v H tg' => tg' = tg ∧ (v = some (.int (k_z (y_sk K aK aO aT aW aS aL so ls fz u P fs x bw (4 ^ fs)).1)) ∧ ∃ (q r w g : Nat → Int32) (m : Nat → Bool), ((y_sk K aK aO aT aW aS aL so ls fz u P fs x bw (4 ^ fs)).1 = true → ∀ i, i < fs → g i = nI ((y_sk K aK aO aT aW aS aL so ls fz u P fs x bw (4 ^ fs)).2.2 i)) ∧ H = (Z ++ k_M th u so fz fs gt yr aK aO aT aH aW aS aL ls pl ps tp td pt en bg fa fv m nx P q r w g ((y_sk K aK aO aT aW aS aL so ls fz u P fs x bw (4 ^ fs)).2.1) of o))) m_no tg 0 0 (201, [some (.ref 70), some (.int x), some (.int base), some (.int (nI 1)), some (.int (nI 1)), some (.int sc), some (.int (nI i)), w7], [], (Z ++ k_M th (y_us fz u D) so fz fs gt yr aK aO aT aH aW aS aL ls pl ps tp td pt en bg fa fv q200 nx P q1 r1 w q sc of o)) := by
                  intro g9
                  induction g9 with
                  | zero =>
                    intro i q hi hq
                    have e9 : i = fs := by omega
                    rw [e9] at hq ⊢
                    refine m_J_run hM 2 rfl ⟨trivial, trivial, trivial⟩ ?_
                    refine m_J_getf hM rfl rfl (kZ hZ 0 rfl) (rfl) ?_
                    refine m_J_run hM 1 rfl ⟨trivial, trivial⟩ ?_
                    refine m_J_if (fun _ => ?_) (fun hc => absurd (nI_le (by omega) (by omega)) hc)
                    exact T2 (true, sc, D) q _ sc _ w7 (by rw [hs9, if_pos ⟨Or.inl rfl, hh⟩]) (fun _ => hq)
                  | succ g9 ihg =>
                    intro i q hi hq
                    have hpi := (hP i (by omega)).1
                    refine m_J_run hM 2 rfl ⟨trivial, trivial, trivial⟩ ?_
                    refine m_J_getf hM rfl rfl (kZ hZ 0 rfl) (rfl) ?_
                    refine m_J_run hM 1 rfl ⟨trivial, trivial⟩ ?_
                    refine m_J_if (fun hc => absurd hc (nI_ge (by omega) (by omega))) (fun _ => ?_)
                    refine m_J_run hM 1 rfl ⟨trivial, trivial⟩ ?_
                    refine m_J_getf hM rfl rfl (kZ hZ 0 rfl) (rfl) ?_
                    refine m_J_run hM 2 rfl ⟨trivial, trivial, trivial⟩ ?_
                    refine m_J_getf hM rfl rfl (kZ hZ 0 rfl) (rfl) ?_
                    refine m_J_run hM 1 rfl ⟨trivial, trivial⟩ ?_
                    refine m_J_getf hM rfl rfl (kZ hZ 0 rfl) (rfl) ?_
                    refine m_J_run hM 1 rfl ⟨trivial, trivial⟩ ?_
                    refine m_ialdN hM rfl (kZ hZ 16 rfl) (by omega) (by omega) ?_
                    refine m_ialdN hM rfl (kZ hZ 1 rfl) (by omega) (by omega) ?_
                    rw [y_us_P (i := i) (hP i (by omega)).1 (hP i (by omega)).2.1 (hP i (by omega)).2.2]
                    refine m_iastN hM rfl (kZ hZ 20 rfl) (by omega) (by omega) ?_
                    refine m_J_eqH (H' := (Z ++ k_M th (y_us fz u D) so fz fs gt yr aK aO aT aH aW aS aL ls pl ps tp td pt en bg fa fv q200 nx P q1 r1 w (upd q i (nI (D i))) sc of o)) (kZs hZ 20 (rfl)) ?_
                    refine m_J_run hM 2 rfl ⟨trivial, trivial, trivial⟩ ?_
                    rw [nI_add i 1]
                    have h9 := ihg (i + 1) (upd q i (nI (D i))) (by omega) (fun j hj => if e : j = i then by rw [e, pk_us] else by rw [pk_un e]; exact hq j (by omega))
                    exact h9
                exact LG fs 0 q (by omega) (fun j hj => absurd hj (by omega))
            | true =>
              rw [hR1] at hs9
              refine m_J_run hM 1 rfl ⟨trivial, trivial⟩ ?_
              refine m_J_if (fun hc => absurd hc (by decide)) (fun _ => ?_)
              refine m_J_run hM 2 rfl ⟨trivial, trivial, trivial⟩ ?_
              refine m_J_getf hM rfl rfl (kZ hZ 0 rfl) (rfl) ?_
              refine m_J_run hM 1 rfl ⟨trivial, trivial⟩ ?_
              refine m_J_if (fun h5 => ?_) (fun h5 => ?_)
              ·
                have h9 := T2 R q m sc (some (.int (nI fs))) w7 (by rw [hs9, if_neg (fun r => r.1.elim (fun q => by cases q) (fun q => q h5))]) hg
                rw [hR1] at h9
                exact h9
              ·
                refine m_J_run hM 2 rfl ⟨trivial, trivial, trivial⟩ ?_
                refine m_cVp1 hZ hM rfl kw_X9_263 rfl rfl rfl (y_allHold hZ hls hK) (Nat.le_of_ble_eq_true rfl) (fun v9 h9 hp9 => ?_)
                obtain ⟨rfl, q268, rfl⟩ := hp9
                refine ⟨k_le rfl, ?_⟩
                rw [show k_all (fun k => decide (nI k = x) || y_hb (K k) aO aT aS aL (y_us fz u D) k) ls = y_ho K aO aT aS aL ls fz u x D from rfl]
                cases hh : y_ho K aO aT aS aL ls fz u x D with
                | false =>
                  refine m_J_run hM 1 rfl ⟨trivial, trivial⟩ ?_
                  refine m_J_if (fun _ => ?_) (fun hc => absurd (by decide) hc)
                  have h9 := T2 R q q268 sc (some (.int (nI fs))) w7 (by rw [hs9, if_neg (fun r => by rw [hh] at r; cases r.2)]) hg
                  rw [hR1] at h9
                  exact h9
                | true =>
                  refine m_J_run hM 1 rfl ⟨trivial, trivial⟩ ?_
                  refine m_J_if (fun hc => absurd hc (by decide)) (fun _ => ?_)
                  refine m_J_run hM 4 rfl ⟨trivial, trivial, trivial, trivial, trivial⟩ ?_
                  refine m_J_putf hM rfl rfl (kZ hZ 0 rfl) (rfl) ?_
                  refine m_J_eqH (H' := (Z ++ k_M th (y_us fz u D) so fz fs gt yr aK aO aT aH aW aS aL ls pl ps tp td pt en bg fa fv q268 nx P q1 r1 w q sc of o)) (kZs hZ 0 rfl) ?_
                  refine m_J_run hM 2 rfl ⟨trivial, trivial, trivial⟩ ?_
                  have LG : ∀ (g9 i : Nat) (q : Nat → Int32), i + g9 = fs → (∀ j, j < i → q j = nI (D j)) → m_J l (m_EX E N xs) E mM_X9_seeks (d + 4) 0 0 (fun v H tg' => tg' = tg ∧ (v = some (.int (k_z (y_sk K aK aO aT aW aS aL so ls fz u P fs x bw (4 ^ fs)).1)) ∧ ∃ (q r w g : Nat → Int32) (m : Nat → Bool), ((y_sk K aK aO aT aW aS aL so ls fz u P fs x bw (4 ^ fs)).1 = true → ∀ i, i < fs → g i = nI ((y_sk K aK aO aT aW aS aL so ls fz u P fs x bw (4 ^ fs)).2.2 i)) ∧ H = (Z ++ k_M th u so fz fs gt yr aK aO aT aH aW aS aL ls pl ps tp td pt en bg fa fv m nx P q r w g ((y_sk K aK aO aT aW aS aL so ls fz u P fs x bw (4 ^ fs)).2.1) of o))) m_no tg 0 0 (201, [some (.ref 70), some (.int x), some (.int base), some (.int (nI 1)), some (.int (nI 1)), some (.int sc), some (.int (nI i)), w7], [], (Z ++ k_M th (y_us fz u D) so fz fs gt yr aK aO aT aH aW aS aL ls pl ps tp td pt en bg fa fv q268 nx P q1 r1 w q sc of o)) := by
                    intro g9
                    induction g9 with
                    | zero =>
                      intro i q hi hq
                      have e9 : i = fs := by omega
                      rw [e9] at hq ⊢
                      refine m_J_run hM 2 rfl ⟨trivial, trivial, trivial⟩ ?_
                      refine m_J_getf hM rfl rfl (kZ hZ 0 rfl) (rfl) ?_
                      refine m_J_run hM 1 rfl ⟨trivial, trivial⟩ ?_
                      refine m_J_if (fun _ => ?_) (fun hc => absurd (nI_le (by omega) (by omega)) hc)
                      exact T2 (true, sc, D) q _ sc _ w7 (by rw [hs9, if_pos ⟨Or.inr h5, hh⟩]) (fun _ => hq)
                    | succ g9 ihg =>
                      intro i q hi hq
                      have hpi := (hP i (by omega)).1
                      refine m_J_run hM 2 rfl ⟨trivial, trivial, trivial⟩ ?_
                      refine m_J_getf hM rfl rfl (kZ hZ 0 rfl) (rfl) ?_
                      refine m_J_run hM 1 rfl ⟨trivial, trivial⟩ ?_
                      refine m_J_if (fun hc => absurd hc (nI_ge (by omega) (by omega))) (fun _ => ?_)
                      refine m_J_run hM 1 rfl ⟨trivial, trivial⟩ ?_
                      refine m_J_getf hM rfl rfl (kZ hZ 0 rfl) (rfl) ?_
                      refine m_J_run hM 2 rfl ⟨trivial, trivial, trivial⟩ ?_
                      refine m_J_getf hM rfl rfl (kZ hZ 0 rfl) (rfl) ?_
                      refine m_J_run hM 1 rfl ⟨trivial, trivial⟩ ?_
                      refine m_J_getf hM rfl rfl (kZ hZ 0 rfl) (rfl) ?_
                      refine m_J_run hM 1 rfl ⟨trivial, trivial⟩ ?_
                      refine m_ialdN hM rfl (kZ hZ 16 rfl) (by omega) (by omega) ?_
                      refine m_ialdN hM rfl (kZ hZ 1 rfl) (by omega) (by omega) ?_
                      rw [y_us_P (i := i) (hP i (by omega)).1 (hP i (by omega)).2.1 (hP i (by omega)).2.2]
                      refine m_iastN hM rfl (kZ hZ 20 rfl) (by omega) (by omega) ?_
                      refine m_J_eqH (H' := (Z ++ k_M th (y_us fz u D) so fz fs gt yr aK aO aT aH aW aS aL ls pl ps tp td pt en bg fa fv q268 nx P q1 r1 w (upd q i (nI (D i))) sc of o)) (kZs hZ 20 (rfl)) ?_
                      refine m_J_run hM 2 rfl ⟨trivial, trivial, trivial⟩ ?_
                      rw [nI_add i 1]
                      have h9 := ihg (i + 1) (upd q i (nI (D i))) (by omega) (fun j hj => if e : j = i then by rw [e, pk_us] else by rw [pk_un e]; exact hq j (by omega))
                      exact h9
                  exact LG fs 0 q (by omega) (fun j hj => absurd hj (by omega))
          | succ a9 iha =>
            intro i w7 ha 
            have hdi := hD i
            have hpi := (hP i (by omega)).1
            refine m_J_run hM 2 rfl ⟨trivial, trivial, trivial⟩ ?_
            refine m_J_getf hM rfl rfl (kZ hZ 0 rfl) (rfl) ?_
            refine m_J_run hM 1 rfl ⟨trivial, trivial⟩ ?_
            refine m_J_if (fun hc => absurd hc (nI_ge (by omega) (by omega))) (fun _ => ?_)
            refine m_J_run hM 2 rfl ⟨trivial, trivial, trivial⟩ ?_
            refine m_J_getf hM rfl rfl (kZ hZ 0 rfl) (rfl) ?_
            refine m_J_run hM 4 rfl ⟨trivial, trivial, trivial, trivial, trivial⟩ ?_
            rw [pk_mul 5 i]
            refine m_J_getf hM rfl rfl (kZ hZ 0 rfl) (rfl) ?_
            refine m_J_run hM 1 rfl ⟨trivial, trivial⟩ ?_
            refine m_J_getf hM rfl rfl (kZ hZ 0 rfl) (rfl) ?_
            refine m_J_run hM 1 rfl ⟨trivial, trivial⟩ ?_
            refine m_ialdN hM rfl (kZ hZ 16 rfl) (by omega) (by omega) ?_
            refine m_ialdN hM rfl (kZ hZ 1 rfl) (by omega) (by omega) ?_
            rw [y_us_P (i := i) (hP i (by omega)).1 (hP i (by omega)).2.1 (hP i (by omega)).2.2]
            refine m_J_run hM 1 rfl ⟨trivial, trivial⟩ ?_
            rw [nI_add (5 * i) (D i)]
            refine m_ialdN hM rfl (kZ hZ 17 rfl) (by omega) (by omega) ?_
            rw [hq1 i (D i) (by omega) (by omega) (by omega) (by omega)]
            refine m_J_run hM 4 rfl ⟨trivial, trivial, trivial, trivial, trivial⟩ ?_
            have LJ : ∀ (j9 j : Nat), j + j9 = i → m_J l (m_EX E N xs) E mM_X9_seeks (d + 4) 0 0 (fun v H tg' => tg' = tg ∧ (v = some (.int (k_z (y_sk K aK aO aT aW aS aL so ls fz u P fs x bw (4 ^ fs)).1)) ∧ ∃ (q r w g : Nat → Int32) (m : Nat → Bool), ((y_sk K aK aO aT aW aS aL so ls fz u P fs x bw (4 ^ fs)).1 = true → ∀ i, i < fs → g i = nI ((y_sk K aK aO aT aW aS aL so ls fz u P fs x bw (4 ^ fs)).2.2 i)) ∧ H = (Z ++ k_M th u so fz fs gt yr aK aO aT aH aW aS aL ls pl ps tp td pt en bg fa fv m nx P q r w g ((y_sk K aK aO aT aW aS aL so ls fz u P fs x bw (4 ^ fs)).2.1) of o))) m_no tg 0 0 (109, [some (.ref 70), some (.int x), some (.int base), some (.int (k_z R.1)), some (.int (nI 1)), some (.int (k_acc (y_sm (y_SF aK aO aT aW aS so ls fz u P) (y_BF aK aO aT aW aS ls P) base D i + y_SF aK aO aT aW aS so ls fz u P i (D i)) (fun j => y_BF aK aO aT aW aS ls P i j (D i) (D j)) j)), some (.int (nI i)), some (.int (nI j))], [], (Z ++ k_M th (y_us fz u D) so fz fs gt yr aK aO aT aH aW aS aL ls pl ps tp td pt en bg fa fv m nx P q1 r1 w q R.2.1 of o)) := by
              intro j9
              induction j9 with
              | zero =>
                intro j  hj 
                have e9 : j = i := by omega
                rw [e9]
                refine m_J_run hM 3 rfl ⟨trivial, trivial, trivial, trivial⟩ ?_
                refine m_J_if (fun _ => ?_) (fun hc => absurd (nI_le (by omega) (by omega)) hc)
                refine m_J_run hM 2 rfl ⟨trivial, trivial, trivial⟩ ?_
                rw [nI_add i 1]
                have h9 := iha (i + 1) (some (.int (nI i))) (by omega)
                exact h9
              | succ j9 ihj =>
                intro j  hj 
                have hdj := hD j
                have hpj := (hP j (by omega)).1
                refine m_J_run hM 3 rfl ⟨trivial, trivial, trivial, trivial⟩ ?_
                refine m_J_if (fun hc => absurd hc (nI_ge (by first | omega | (unfold k_ba4; omega)) (by first | omega | (unfold k_ba4; omega)))) (fun _ => ?_)
                refine m_J_run hM 2 rfl ⟨trivial, trivial, trivial⟩ ?_
                refine m_J_getf hM rfl rfl (kZ hZ 0 rfl) (rfl) ?_
                refine m_J_run hM 3 rfl ⟨trivial, trivial, trivial, trivial⟩ ?_
                refine m_J_getf hM rfl rfl (kZ hZ 0 rfl) (rfl) ?_
                refine m_J_run hM 1 rfl ⟨trivial, trivial⟩ ?_
                refine m_J_getf hM rfl rfl (kZ hZ 0 rfl) (rfl) ?_
                refine m_J_run hM 1 rfl ⟨trivial, trivial⟩ ?_
                refine m_ialdN hM rfl (kZ hZ 16 rfl) (by first | omega | (unfold k_ba4; omega)) (by omega) ?_
                refine m_ialdN hM rfl (kZ hZ 1 rfl) (by first | omega | (unfold k_ba4; omega)) (by omega) ?_
                rw [y_us_P (i := i) (hP i (by omega)).1 (hP i (by omega)).2.1 (hP i (by omega)).2.2]
                refine m_J_run hM 1 rfl ⟨trivial, trivial⟩ ?_
                refine m_J_getf hM rfl rfl (kZ hZ 0 rfl) (rfl) ?_
                refine m_J_run hM 1 rfl ⟨trivial, trivial⟩ ?_
                refine m_J_getf hM rfl rfl (kZ hZ 0 rfl) (rfl) ?_
                refine m_J_run hM 1 rfl ⟨trivial, trivial⟩ ?_
                refine m_ialdN hM rfl (kZ hZ 16 rfl) (by first | omega | (unfold k_ba4; omega)) (by omega) ?_
                refine m_ialdN hM rfl (kZ hZ 1 rfl) (by first | omega | (unfold k_ba4; omega)) (by omega) ?_
                rw [y_us_P (i := j) (hP j (by omega)).1 (hP j (by omega)).2.1 (hP j (by omega)).2.2]
                refine m_cS4 hM rfl kw_X9_250 (y_bothAt) (Nat.le_of_ble_eq_true rfl) ?_
                refine m_ialdN hM rfl (kZ hZ 18 rfl) (by first | omega | (unfold k_ba4; omega)) (by omega) ?_
                rw [hr1 i j (D i) (D j) (by omega) (by omega) (by omega) (by omega) (by omega) (by omega) (by omega)]
                refine m_J_run hM 4 rfl ⟨trivial, trivial, trivial, trivial, trivial⟩ ?_
                rw [nI_add j 1]
                have h9 := ihj (j + 1) (by omega)
                exact h9
            exact LJ i 0 (by omega)
        exact LA fs 0 w7 (by omega)
      have LW : ∀ (n c : Nat), c + n + 1 = 4 ^ fs → ∀ (q : Nat → Int32) (m : Nat → Bool) (w5 w6 w7 : Option Value), ((y_sk K aK aO aT aW aS aL so ls fz u P fs x bw c).1 = true → ∀ i, i < fs → q i = nI ((y_sk K aK aO aT aW aS aL so ls fz u P fs x bw c).2.2 i)) → m_J l (m_EX E N xs) E mM_X9_seeks (d + 4) 0 0 (fun v H tg' => tg' = tg ∧ (v = some (.int (k_z (y_sk K aK aO aT aW aS aL so ls fz u P fs x bw (4 ^ fs)).1)) ∧ ∃ (q r w g : Nat → Int32) (m : Nat → Bool), ((y_sk K aK aO aT aW aS aL so ls fz u P fs x bw (4 ^ fs)).1 = true → ∀ i, i < fs → g i = nI ((y_sk K aK aO aT aW aS aL so ls fz u P fs x bw (4 ^ fs)).2.2 i)) ∧ H = (Z ++ k_M th u so fz fs gt yr aK aO aT aH aW aS aL ls pl ps tp td pt en bg fa fv m nx P q r w g ((y_sk K aK aO aT aW aS aL so ls fz u P fs x bw (4 ^ fs)).2.1) of o))) m_no tg 0 0 (59, [some (.ref 70), some (.int x), some (.int base), some (.int (k_z ((y_sk K aK aO aT aW aS aL so ls fz u P fs x bw c).1))), some (.int (nI 1)), w5, w6, w7], [], (Z ++ k_M th (y_us fz u (y_dg fs c)) so fz fs gt yr aK aO aT aH aW aS aL ls pl ps tp td pt en bg fa fv m nx P q1 r1 w q ((y_sk K aK aO aT aW aS aL so ls fz u P fs x bw c).2.1) of o)) := by
        intro n
        induction n with
        | zero => exact fun c hc => SW c (by omega) (fun h => absurd h (by omega))
        | succ n ih => exact fun c hc => SW c (by omega) (fun _ => ih (c + 1) (by omega))
      have hpos : 0 < 4 ^ fs := Nat.pow_pos (by omega)
      exact LW (4 ^ fs - 1) 0 (by omega) gv mt _ _ _ (fun h => by cases h)
    | succ n9 ih =>
      intro i w hi hw
      have hpi := (hP i (by omega)).1
      refine m_J_run hM 2 rfl ⟨trivial, trivial, trivial⟩ ?_
      refine m_J_getf hM rfl rfl (kZ hZ 0 rfl) (rfl) ?_
      refine m_J_run hM 1 rfl ⟨trivial, trivial⟩ ?_
      refine m_J_if (fun hc => absurd hc (nI_ge (by omega) (by omega))) (fun _ => ?_)
      refine m_J_run hM 1 rfl ⟨trivial, trivial⟩ ?_
      refine m_J_getf hM rfl rfl (kZ hZ 0 rfl) (rfl) ?_
      refine m_J_run hM 2 rfl ⟨trivial, trivial, trivial⟩ ?_
      refine m_J_getf hM rfl rfl (kZ hZ 0 rfl) (rfl) ?_
      refine m_J_run hM 1 rfl ⟨trivial, trivial⟩ ?_
      refine m_J_getf hM rfl rfl (kZ hZ 0 rfl) (rfl) ?_
      refine m_J_run hM 1 rfl ⟨trivial, trivial⟩ ?_
      refine m_ialdN hM rfl (kZ hZ 16 rfl) (by omega) (by omega) ?_
      refine m_ialdN hM rfl (kZ hZ 1 rfl) (by omega) (by omega) ?_
      rw [y_us_P (i := i) (hP i (by omega)).1 (hP i (by omega)).2.1 (hP i (by omega)).2.2, k_upN, if_neg (by omega)]
      refine m_iastN hM rfl (kZ hZ 19 rfl) (by omega) (by omega) ?_
      refine m_J_eqH (H' := (Z ++ k_M th (y_us fz u (k_upN (fun _ => 1) (fun i => U (P i)) i)) so fz fs gt yr aK aO aT aH aW aS aL ls pl ps tp td pt en bg fa fv mt nx P q1 r1 (upd w i (nI (U (P i)))) gv bw of o)) (kZs hZ 19 (rfl)) ?_
      refine m_J_run hM 1 rfl ⟨trivial, trivial⟩ ?_
      refine m_J_getf hM rfl rfl (kZ hZ 0 rfl) (rfl) ?_
      refine m_J_run hM 1 rfl ⟨trivial, trivial⟩ ?_
      refine m_J_getf hM rfl rfl (kZ hZ 0 rfl) (rfl) ?_
      refine m_J_run hM 1 rfl ⟨trivial, trivial⟩ ?_
      refine m_ialdN hM rfl (kZ hZ 16 rfl) (by omega) (by omega) ?_
      refine m_J_run hM 1 rfl ⟨trivial, trivial⟩ ?_
      refine m_iastN hM rfl (kZ hZ 1 rfl) (by omega) (by omega) ?_
      refine m_J_eqH (H' := (Z ++ k_M th (upd (y_us fz u (k_upN (fun _ => 1) (fun i => U (P i)) i)) (P i) (nI 1)) so fz fs gt yr aK aO aT aH aW aS aL ls pl ps tp td pt en bg fa fv mt nx P q1 r1 (upd w i (nI (U (P i)))) gv bw of o)) (kZs hZ 1 (rfl)) ?_
      refine m_J_run hM 2 rfl ⟨trivial, trivial, trivial⟩ ?_
      rw [nI_add i 1]
      rw [show (upd (y_us fz u (k_upN (fun _ => 1) (fun i => U (P i)) i)) (P i) (nI 1)) = y_us fz u (k_upN (fun _ => 1) (fun i => U (P i)) (i + 1)) from (y_us_upd (hP i (by omega)).1 (hP i (by omega)).2.1 (hP i (by omega)).2.2).trans (by rw [k_upN_s (fun _ => 1)])]
      have h9 := ih (i + 1) (upd w i (nI (U (P i)))) (by omega) (fun j hj => if e : j = i then by rw [e, pk_us] else by rw [pk_un e]; exact hw j (by omega))
      exact h9
  have h9 := LP fs 0 wa (by omega) (fun j hj => absurd hj (by omega))
  rw [k_upN_0, y_us_id hfs hu hP] at h9
  exact h9
end
