/-! SEARCH: all ways to give uses to the free squares -/
def k_ishr (x : Int32) (n : Nat) : Int32 := (x.toUInt32 >>> ((nI n).toUInt32 &&& Int32.toUInt32 31)).toInt32
def k_ip1 (x : Int32) : Int32 := x - (k_ishr x 1 &&& 1431655765)
def k_ip2 (x : Int32) : Int32 := (x &&& 858993459) + (k_ishr x 2 &&& 858993459)
def k_ip3 (x : Int32) : Int32 := (x + k_ishr x 4) &&& 252645135
def k_ips (n : Nat) (x : Int32) : Int32 := x + k_ishr x n
def k_ipc (x : Int32) : Int32 := k_ips 16 (k_ips 8 (k_ip3 (k_ip2 (k_ip1 x)))) &&& nI 63
/-- found, its worth, its uses, the worths by breaking one law -/
abbrev kS : Type := Bool × Int32 × (Nat → Int64) × (Nat → Int32)
def k_jw (wo br : Int32) (W : Nat → Int32) : Nat → Nat → Int32
  | 0 => W
  | n + 1 => if br = nI 1 <<< (nI n &&& 31) then upd (k_jw wo br W n) n (if k_jw wo br W n n < wo then wo else k_jw wo br W n n) else k_jw wo br W n
def k_jd (F : Nat → Int64) (wo br : Int32) (S : kS) : kS :=
  if br = 0 ∧ (S.1 = false ∨ ¬ wo ≤ S.2.1) then (true, wo, k_upto F S.2.2.1 5, k_jw wo br S.2.2.2 14) else (S.1, S.2.1, S.2.2.1, k_jw wo br S.2.2.2 14)
def k_pf (q : Nat → kL) (m : Nat) (so : Nat → Int32) (sqs : Nat → Nat) (cnt : Nat) : Nat → Int32 → Int32 → ((Nat → Int64) × kS) → ((Nat → Int64) × kS)
  | 0, wo, br, S => if k_ipc br ≤ nI 1 then (S.1, k_jd S.1 wo (br ||| k_bits (fun i => k_bw (q i) S.1) m) S.2) else S
  | n + 1, wo, br, S => if k_ipc br ≤ nI 1 then
      (let one := fun (v : Nat) (S : (Nat → Int64) × kS) =>
        let R := k_pf q m so sqs cnt n (wo + k_sum (fun i => k_lwp (q i) S.1 so (sqs (cnt - (n + 1))) v) m) (br ||| k_bits (fun i => k_bpp (q i) S.1 (sqs (cnt - (n + 1))) v) m) (k_put S.1 (k_only (sqs (cnt - (n + 1)))) v, S.2)
        (k_lift R.1 (k_only (sqs (cnt - (n + 1)))), R.2)
      one 4 (one 3 (one 2 (one 1 S)))) else S
/-- nothing but these places has changed -/
def k_fr (A : List Nat) (h H : mH) : Prop := H.length = h.length ∧ ∀ k, k ∉ A → H[k]? = h[k]?
theorem k_fr_r (A : List Nat) (h : mH) : k_fr A h h := ⟨rfl, fun _ _ => rfl⟩
theorem k_fr_t {A : List Nat} {h H K : mH} (h1 : k_fr A h H) (h2 : k_fr A H K) : k_fr A h K := ⟨h2.1.trans h1.1, fun k hk => (h2.2 k hk).trans (h1.2 k hk)⟩
theorem k_fr_s {A : List Nat} {h H : mH} {k : Nat} {c : va_E} (h1 : k_fr A h H) (hk : k ∈ A) : k_fr A h (H.set k c) := ⟨by rw [List.length_set]; exact h1.1, fun j hj => by rw [List.getElem?_set_ne (show k ≠ j from fun e => hj (by rw [← e]; exact hk))]; exact h1.2 j hj⟩
abbrev k_so (tl sqa bu wb bk cnt : Nat) (fd : Bool) (bw : Int32) : va_E := .inr (4, [.ref tl, .ref sqa, .ref bu, .ref wb, .ref bk, .int (nI cnt), .int (k_z fd), .int bw])
/-- the search's cells -/
def k_SR (H : mH) (z tl tu tb s r : Nat) (w : Nat → Nat) (so : Nat → Int32) (sqa : Nat) (sqs : Nat → Nat) (cnt bu bb wb : Nat) (bk rw : Nat) (ad : Nat → Nat) (m : Nat) (q : Nat → kL) (F : Nat → Int64) (S : kS) : Prop :=
  H[z]? = some (k_so tl sqa bu wb bk cnt S.1 S.2.1) ∧ k_LD H tl tu tb s r w F so ∧ H[sqa]? = some (k_ia 5 (fun i => nI (sqs i))) ∧ H[bu]? = some (k_uses bb) ∧ H[bb]? = some (k_la 5 S.2.2.1) ∧ H[wb]? = some (k_ia 14 S.2.2.2) ∧ k_BK H bk rw ad m q ∧ tb ≠ bb ∧ wb ≠ sqa ∧ wb ≠ s
theorem k_LD_self {h : mH} {a u b s r : Nat} {w : Nat → Nat} {f g : Nat → Int64} {so : Nat → Int32} (hL : k_LD h a u b s r w f so) : k_LD (h.set b (k_la 5 g)) a u b s r w g so := by
  obtain ⟨h1, h2, h3, h4, h5, h6⟩ := hL
  exact ⟨k_sn (k_ne h1 h3) h1, k_sn (k_ne h2 h3) h2, k_ss h3, k_sn (k_neT h4 h3 (by simp)) h4, k_sn (k_neT h5 h3 (by simp)) h5, fun i hi => k_sn (k_neT (h6 i hi) h3 (by simp)) (h6 i hi)⟩
theorem k_LD_int {h : mH} {a u b s r : Nat} {w : Nat → Nat} {f : Nat → Int64} {so : Nat → Int32} {b2 n : Nat} {g : Nat → Int32} {z : va_E} (hL : k_LD h a u b s r w f so) (h2 : h[b2]? = some (k_ia n g)) (hne : s ≠ b2) : k_LD (h.set b2 z) a u b s r w f so := by
  obtain ⟨h1, h2', h3, h4, h5, h6⟩ := hL
  exact ⟨k_sn (k_ne h1 h2) h1, k_sn (k_ne h2' h2) h2', k_sn (k_neT h3 h2 (by simp)) h3, k_sn hne h4, k_sn (k_neT h5 h2 (by simp)) h5, fun i hi => k_sn (k_neT (h6 i hi) h2 (by simp)) (h6 i hi)⟩
theorem k_BK_int {h : mH} {a rw : Nat} {ad : Nat → Nat} {n : Nat} {q : Nat → kL} {b2 k : Nat} {g : Nat → Int32} {z : va_E} (hB : k_BK h a rw ad n q) (h2 : h[b2]? = some (k_ia k g)) : k_BK (h.set b2 z) a rw ad n q := by
  obtain ⟨h1, h2', h3, h4⟩ := hB
  exact ⟨k_sn (k_ne h1 h2) h1, k_sn (k_neT h2' h2 (by simp)) h2', fun i hi => k_sn (k_ne (h3 i hi) h2) (h3 i hi), h4⟩
theorem k_neO {h : mH} {a b : Nat} {c c' : Nat} {x x' : List Value} (ha : h[a]? = some (.inr (c, x))) (hb : h[b]? = some (.inr (c', x'))) (hne : c ≠ c') : a ≠ b := by
  intro e
  subst e
  rw [ha] at hb
  cases hb
  exact hne rfl
theorem k_LD_obj {h : mH} {a u b s r : Nat} {w : Nat → Nat} {f : Nat → Int64} {so : Nat → Int32} {b2 : Nat} {fs : List Value} {z : va_E} (hL : k_LD h a u b s r w f so) (h2 : h[b2]? = some (.inr (4, fs))) : k_LD (h.set b2 z) a u b s r w f so := by
  obtain ⟨h1, h2', h3, h4, h5, h6⟩ := hL
  exact ⟨k_sn (k_neO h1 h2 (by simp)) h1, k_sn (k_neO h2' h2 (by simp)) h2', k_sn (Ne.symm (k_ne h2 h3)) h3, k_sn (Ne.symm (k_ne h2 h4)) h4, k_sn (Ne.symm (k_ne h2 h5)) h5, fun i hi => k_sn (Ne.symm (k_ne h2 (h6 i hi))) (h6 i hi)⟩
theorem k_BK_obj {h : mH} {a rw : Nat} {ad : Nat → Nat} {n : Nat} {q : Nat → kL} {b2 : Nat} {fs : List Value} {z : va_E} (hB : k_BK h a rw ad n q) (h2 : h[b2]? = some (.inr (4, fs))) : k_BK (h.set b2 z) a rw ad n q := by
  obtain ⟨h1, h2', h3, h4⟩ := hB
  exact ⟨k_sn (k_neO h1 h2 (by simp)) h1, k_sn (Ne.symm (k_ne h2 h2')) h2', fun i hi => k_sn (k_neO (h3 i hi) h2 (by simp)) (h3 i hi), h4⟩
section
variable {l : Launch} {E : mE} {N : Nat} {xs : Nat → Int32} {d : Nat} {tg : Bool} {h : mH} {z tl tu tb s r : Nat} {w : Nat → Nat} {so : Nat → Int32} {sqa : Nat} {sqs : Nat → Nat} {cnt bu bb wb bk rw : Nat} {ad : Nat → Nat} {m : Nat} {q : Nat → kL}
theorem s_ipc (x : Int32) : m_Dt l (m_EX E N xs) E mM_J6_bitCount_0f7a4 d 0 0 [.int x] h tg (some (.int (k_ipc x))) h tg := by
  have hM := mM_J6_bitCount_0f7a4_ok
  refine m_Sp_of (by decide) (Nat.le_of_ble_eq_true rfl) ?_
  refine m_J_run hM 8 rfl ⟨trivial, trivial, trivial, trivial, trivial, trivial, trivial, trivial, trivial⟩ ?_
  refine m_J_run hM 10 rfl ⟨trivial, trivial, trivial, trivial, trivial, trivial, trivial, trivial, trivial, trivial, trivial⟩ ?_
  refine m_J_run hM 8 rfl ⟨trivial, trivial, trivial, trivial, trivial, trivial, trivial, trivial, trivial⟩ ?_
  refine m_J_run hM 12 rfl ⟨trivial, trivial, trivial, trivial, trivial, trivial, trivial, trivial, trivial, trivial, trivial, trivial, trivial⟩ ?_
  refine m_J_run hM 3 rfl ⟨trivial, trivial, trivial, trivial⟩ ?_
  exact m_iret hM rfl rfl rfl (Nat.le_of_ble_eq_true rfl) (Nat.le_of_ble_eq_true rfl) (rfl) (rfl)
theorem k_SR_T {H : mH} {F G : Nat → Int64} {S : kS} (hR : k_SR H z tl tu tb s r w so sqa sqs cnt bu bb wb bk rw ad m q F S) : k_SR (H.set tb (k_la 5 G)) z tl tu tb s r w so sqa sqs cnt bu bb wb bk rw ad m q G S := by
  obtain ⟨h1, h2, h3, h4, h5, h6, h7, h8, h9, h10⟩ := hR
  have ht := h2.2.2.1
  exact ⟨k_sn (k_ne h1 ht) h1, k_LD_self h2, k_sn (k_neT h3 ht (by simp)) h3, k_sn (k_ne h4 ht) h4, k_sn (Ne.symm h8) h5, k_sn (k_neT h6 ht (by simp)) h6, k_BK_set h7 ht, h8, h9, h10⟩
theorem k_SR_B {H : mH} {F G : Nat → Int64} {S : kS} (hR : k_SR H z tl tu tb s r w so sqa sqs cnt bu bb wb bk rw ad m q F S) : k_SR (H.set bb (k_la 5 G)) z tl tu tb s r w so sqa sqs cnt bu bb wb bk rw ad m q F (S.1, S.2.1, G, S.2.2.2) := by
  obtain ⟨h1, h2, h3, h4, h5, h6, h7, h8, h9, h10⟩ := hR
  exact ⟨k_sn (k_ne h1 h5) h1, k_LD_set h2 h5 h8, k_sn (k_neT h3 h5 (by simp)) h3, k_sn (k_ne h4 h5) h4, k_ss h5, k_sn (k_neT h6 h5 (by simp)) h6, k_BK_set h7 h5, h8, h9, h10⟩
theorem k_SR_W {H : mH} {F : Nat → Int64} {G : Nat → Int32} {S : kS} (hR : k_SR H z tl tu tb s r w so sqa sqs cnt bu bb wb bk rw ad m q F S) : k_SR (H.set wb (k_ia 14 G)) z tl tu tb s r w so sqa sqs cnt bu bb wb bk rw ad m q F (S.1, S.2.1, S.2.2.1, G) := by
  obtain ⟨h1, h2, h3, h4, h5, h6, h7, h8, h9, h10⟩ := hR
  exact ⟨k_sn (k_ne h1 h6) h1, k_LD_int h2 h6 (Ne.symm h10), k_sn (Ne.symm h9) h3, k_sn (k_ne h4 h6) h4, k_sn (k_neT h5 h6 (by simp)) h5, k_ss h6, k_BK_int h7 h6, h8, h9, h10⟩
theorem k_SR_Z {H : mH} {F : Nat → Int64} {fd : Bool} {bw : Int32} {S : kS} (hR : k_SR H z tl tu tb s r w so sqa sqs cnt bu bb wb bk rw ad m q F S) : k_SR (H.set z (k_so tl sqa bu wb bk cnt fd bw)) z tl tu tb s r w so sqa sqs cnt bu bb wb bk rw ad m q F (fd, bw, S.2.2) := by
  obtain ⟨h1, h2, h3, h4, h5, h6, h7, h8, h9, h10⟩ := hR
  exact ⟨k_ss h1, k_LD_obj h2 h1, k_sn (Ne.symm (k_ne h1 h3)) h3, k_sn (k_neO h4 h1 (by simp)) h4, k_sn (Ne.symm (k_ne h1 h5)) h5, k_sn (Ne.symm (k_ne h1 h6)) h6, k_BK_obj h7 h1, h8, h9, h10⟩
theorem k_z_boo (b : Bool) : m_fit .boolean (.int (k_z b)) = true := by cases b <;> decide
set_option maxHeartbeats 1000000 in
theorem r_judge {F : Nat → Int64} {S : kS} {wo br : Int32} (hR : k_SR h z tl tu tb s r w so sqa sqs cnt bu bb wb bk rw ad m q F S) : m_Sp l (m_EX E N xs) E mM_X4_judge (d + 1) 0 0 [.ref z, .int wo, .int br] h tg (fun v H tg' => v = none ∧ tg' = tg ∧ k_SR H z tl tu tb s r w so sqa sqs cnt bu bb wb bk rw ad m q F (k_jd F wo br S) ∧ k_fr [z, tb, bb, wb] h H) m_no := by
  have hM := mM_X4_judge_ok
  refine m_Sp_of (by decide) (Nat.le_of_ble_eq_true rfl) ?_
  -- the second half: what each law's breaking is worth
  have half : ∀ (H : mH) (T : kS), k_SR H z tl tu tb s r w so sqa sqs cnt bu bb wb bk rw ad m q F T → k_fr [z, tb, bb, wb] h H → k_jd F wo br S = (T.1, T.2.1, T.2.2.1, k_jw wo br T.2.2.2 14) → m_J l (m_EX E N xs) E mM_X4_judge (d + 1) 0 0 (fun v H tg' => v = none ∧ tg' = tg ∧ k_SR H z tl tu tb s r w so sqa sqs cnt bu bb wb bk rw ad m q F (k_jd F wo br S) ∧ k_fr [z, tb, bb, wb] h H) m_no tg 0 0 (43, [some (.ref z), some (.int wo), some (.int br), none], [], H) := by
    intro H T hT hF he
    refine m_J_run hM 2 rfl ⟨trivial, trivial, trivial⟩ ?_
    have loop : ∀ (n i : Nat), i + n = 14 → m_J l (m_EX E N xs) E mM_X4_judge (d + 1) 0 0 (fun v H tg' => v = none ∧ tg' = tg ∧ k_SR H z tl tu tb s r w so sqa sqs cnt bu bb wb bk rw ad m q F (k_jd F wo br S) ∧ k_fr [z, tb, bb, wb] h H) m_no tg 0 0 (45, [some (.ref z), some (.int wo), some (.int br), some (.int (nI i))], [], H.set wb (k_ia 14 (k_jw wo br T.2.2.2 i))) := by
      intro n
      induction n with
      | zero =>
        intro i hi
        have e : i = 14 := by omega
        subst e
        refine m_J_run hM 3 rfl ⟨trivial, trivial, trivial, trivial⟩ ?_
        refine m_J_if (fun _ => ?_) (fun hc => absurd (by decide) hc)
        refine m_J_vret hM rfl rfl (Nat.le_refl _) (Nat.le_refl _) ⟨rfl, rfl, ?_, k_fr_s hF (by simp)⟩
        rw [he]
        exact k_SR_W hT
      | succ n ih =>
        intro i hi
        have hT2 := k_SR_W (G := k_jw wo br T.2.2.2 i) hT
        obtain ⟨h1, h2, h3, h4, h5, h6, h7, h8, h9, h10⟩ := hT2
        refine m_J_run hM 3 rfl ⟨trivial, trivial, trivial, trivial⟩ ?_
        refine m_J_if (fun hc => absurd hc (nI_ge (by omega) (by omega))) (fun _ => ?_)
        refine m_J_run hM 5 rfl ⟨trivial, trivial, trivial, trivial, trivial, trivial⟩ ?_
        refine m_J_if (fun hc => ?_) (fun hc => ?_)
        · refine m_J_run hM 2 rfl ⟨trivial, trivial, trivial⟩ ?_
          refine m_eqS (ih (i + 1) (by omega)) ?_
          rw [k_succ i, k_jw, if_neg hc]
          rfl
        · have hc2 := Classical.not_not.mp hc
          refine m_J_run hM 1 rfl ⟨trivial, trivial⟩ ?_
          refine m_J_getf hM rfl rfl (h1) (rfl) ?_
          refine m_J_run hM 2 rfl ⟨trivial, trivial, trivial⟩ ?_
          refine m_J_getf hM rfl rfl (h1) (rfl) ?_
          refine m_J_run hM 1 rfl ⟨trivial, trivial⟩ ?_
          refine m_ialdN hM rfl (h6) (by omega) (by omega) ?_
          refine m_J_run hM 1 rfl ⟨trivial, trivial⟩ ?_
          refine m_max hM rfl kw_X4_111 (Nat.le_of_ble_eq_true rfl) (Nat.le_of_ble_eq_true rfl) (Nat.le_of_ble_eq_true rfl) ?_
          refine m_iastN hM rfl (h6) (by omega) (by omega) ?_
          rw [k_s2]
          refine m_J_run hM 2 rfl ⟨trivial, trivial, trivial⟩ ?_
          refine m_eqS (ih (i + 1) (by omega)) ?_
          rw [k_succ i, k_jw, if_pos hc2]
          rfl
    have h0 := loop 14 0 rfl
    rw [show k_jw wo br T.2.2.2 0 = T.2.2.2 from rfl, k_s0 hT.2.2.2.2.2.1] at h0
    exact h0
  obtain ⟨h1, h2, h3, h4, h5, h6, h7, h8, h9, h10⟩ := id hR
  have no : ¬ (br = 0 ∧ (S.1 = false ∨ ¬ wo ≤ S.2.1)) → k_jd F wo br S = (S.1, S.2.1, S.2.2.1, k_jw wo br S.2.2.2 14) := fun hn => by unfold k_jd; rw [if_neg hn]
  -- the first half: a better one
  have better : br = 0 ∧ (S.1 = false ∨ ¬ wo ≤ S.2.1) → m_J l (m_EX E N xs) E mM_X4_judge (d + 1) 0 0 (fun v H tg' => v = none ∧ tg' = tg ∧ k_SR H z tl tu tb s r w so sqa sqs cnt bu bb wb bk rw ad m q F (k_jd F wo br S) ∧ k_fr [z, tb, bb, wb] h H) m_no tg 0 0 (19, [some (.ref z), some (.int wo), some (.int br), none], [], h) := by
    intro hy
    refine m_J_run hM 2 rfl ⟨trivial, trivial, trivial⟩ ?_
    refine m_J_putf hM rfl rfl (h1) (rfl) ?_
    refine m_J_run hM 2 rfl ⟨trivial, trivial, trivial⟩ ?_
    refine m_J_putf hM rfl rfl (k_ss h1) rfl ?_
    rw [k_s2]
    have hZ := k_SR_Z (fd := true) (bw := wo) hR
    have hFr : k_fr [z, tb, bb, wb] h (h.set z (k_so tl sqa bu wb bk cnt true wo)) := k_fr_s (k_fr_r _ h) (by simp)
    show m_J _ _ _ _ _ _ _ _ _ _ _ _ (_, _, _, h.set z (k_so tl sqa bu wb bk cnt true wo))
    generalize h.set z (k_so tl sqa bu wb bk cnt true wo) = H at hZ hFr ⊢
    obtain ⟨h1, h2, h3, h4, h5, h6, h7, h8, h9, h10⟩ := id hZ
    refine m_J_run hM 1 rfl ⟨trivial, trivial⟩ ?_
    refine m_J_getf hM rfl rfl (h1) (rfl) ?_
    refine m_J_run hM 1 rfl ⟨trivial, trivial⟩ ?_
    refine m_J_getf hM rfl rfl (h1) (rfl) ?_
    refine m_J_getf hM rfl rfl (h2.1) (rfl) ?_
    refine m_callV (as := [.ref tu]) (rest := []) (m_EX_warm E N xs) hM rfl kw_X4_57 rfl rfl (h4) ⟨_, rfl, rfl⟩ (u_become h4 h5 h2.2.1 h2.2.2.1 h8) rfl (Nat.le_of_ble_eq_true rfl) (Nat.le_of_ble_eq_true rfl) (Nat.le_of_ble_eq_true rfl) (fun ht => ⟨ht, by simp⟩) ?_
    exact half _ _ (k_SR_B hZ) (k_fr_s hFr (by simp)) (by unfold k_jd; rw [if_pos hy])
  refine m_J_run hM 2 rfl ⟨trivial, trivial, trivial⟩ ?_
  refine m_J_if (fun hc => ?_) (fun hc => ?_)
  · exact half h S hR (k_fr_r _ h) (no (fun q => hc q.1))
  · have hb0 : br = 0 := Classical.not_not.mp hc
    refine m_J_run hM 1 rfl ⟨trivial, trivial⟩ ?_
    refine m_J_getf hM rfl rfl (h1) (rfl) ?_
    refine m_J_run hM 1 rfl ⟨trivial, trivial⟩ ?_
    refine m_J_if (fun hc2 => ?_) (fun hc2 => ?_)
    · exact better ⟨hb0, Or.inl (k_z0 hc2)⟩
    · have hf := k_z1 hc2
      refine m_J_run hM 2 rfl ⟨trivial, trivial, trivial⟩ ?_
      refine m_J_getf hM rfl rfl (h1) (rfl) ?_
      refine m_J_run hM 1 rfl ⟨trivial, trivial⟩ ?_
      refine m_J_if (fun hc3 => ?_) (fun hc3 => ?_)
      · exact half h S hR (k_fr_r _ h) (no (fun q => by rcases q.2 with q | q; (rw [hf] at q; cases q); exact q hc3))
      · exact better ⟨hb0, Or.inr hc3⟩
end
