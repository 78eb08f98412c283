/-! SEARCH: putFrom, listSquares, run -/
section
variable {l : Launch} {E : mE} {N : Nat} {xs : Nat → Int32} {d : Nat} {tg : Bool} {h : mH} {z tl tu tb s r : Nat} {w : Nat → Nat} {so : Nat → Int32} {sqa : Nat} {sqs : Nat → Nat} {cnt bu bb wb bk rw : Nat} {ad : Nat → Nat} {m : Nat} {q : Nat → kL}
theorem k_pf_0 (wo br : Int32) (S : (Nat → Int64) × kS) : k_pf q m so sqs cnt 0 wo br S = if k_ipc br ≤ nI 1 then (S.1, k_jd S.1 wo (br ||| k_bits (fun i => k_bw (q i) S.1) m) S.2) else S := rfl
def k_one (q : Nat → kL) (m : Nat) (so : Nat → Int32) (sqs : Nat → Nat) (cnt n : Nat) (wo br : Int32) (v : Nat) (S : (Nat → Int64) × kS) : (Nat → Int64) × kS :=
  (k_lift (k_pf q m so sqs cnt n (wo + k_sum (fun i => k_lwp (q i) S.1 so (sqs (cnt - (n + 1))) v) m) (br ||| k_bits (fun i => k_bpp (q i) S.1 (sqs (cnt - (n + 1))) v) m) (k_put S.1 (k_only (sqs (cnt - (n + 1)))) v, S.2)).1 (k_only (sqs (cnt - (n + 1)))),
    (k_pf q m so sqs cnt n (wo + k_sum (fun i => k_lwp (q i) S.1 so (sqs (cnt - (n + 1))) v) m) (br ||| k_bits (fun i => k_bpp (q i) S.1 (sqs (cnt - (n + 1))) v) m) (k_put S.1 (k_only (sqs (cnt - (n + 1)))) v, S.2)).2)
def k_ones (q : Nat → kL) (m : Nat) (so : Nat → Int32) (sqs : Nat → Nat) (cnt n : Nat) (wo br : Int32) (S : (Nat → Int64) × kS) : Nat → (Nat → Int64) × kS
  | 0 => S
  | v + 1 => k_one q m so sqs cnt n wo br (v + 1) (k_ones q m so sqs cnt n wo br S v)
theorem k_pf_s (n : Nat) (wo br : Int32) (S : (Nat → Int64) × kS) : k_pf q m so sqs cnt (n + 1) wo br S = if k_ipc br ≤ nI 1 then k_ones q m so sqs cnt n wo br S 4 else S := rfl
set_option maxHeartbeats 2000000 in
theorem r_put (hcnt : cnt ≤ 5) (hsq : ∀ i, i < cnt → sqs i < 60) : ∀ (n : Nat) (d : Nat) (h : mH) (F : Nat → Int64) (S : kS) (wo br : Int32), n ≤ cnt → k_SR h z tl tu tb s r w so sqa sqs cnt bu bb wb bk rw ad m q F S →
    m_Sp l (m_EX E N xs) E mM_X4_putFrom (d + n + 4) 0 0 [.ref z, .int (nI (cnt - n)), .int wo, .int br] h tg (fun v H tg' => v = none ∧ tg' = tg ∧ k_SR H z tl tu tb s r w so sqa sqs cnt bu bb wb bk rw ad m q (k_pf q m so sqs cnt n wo br (F, S)).1 (k_pf q m so sqs cnt n wo br (F, S)).2 ∧ k_fr [z, tb, bb, wb] h H) m_no := by
  have hM := mM_X4_putFrom_ok
  intro n
  induction n with
  | zero =>
    intro d h F S wo br hn hR
    obtain ⟨h1, h2, h3, h4, h5, h6, h7, h8, h9, h10⟩ := id hR
    rw [k_pf_0]
    refine m_Sp_of (by decide) (Nat.le_of_ble_eq_true rfl) ?_
    refine m_J_run hM 1 rfl ⟨trivial, trivial⟩ ?_
    refine m_callS (as := [.int br]) (rest := []) (m_EX_warm E N xs) hM rfl kw_X4_83 rfl (s_ipc br) rfl (Nat.le_of_ble_eq_true rfl) (Nat.le_of_ble_eq_true rfl) (Nat.le_of_ble_eq_true rfl) (fun ht => ⟨ht, Nat.le_refl _⟩) ?_
    refine m_J_run hM 2 rfl ⟨trivial, trivial, trivial⟩ ?_
    refine m_J_if (fun hc => ?_) (fun hc => ?_)
    · rw [if_pos hc]
      refine m_J_run hM 2 rfl ⟨trivial, trivial, trivial⟩ ?_
      refine m_J_getf hM rfl rfl (h1) (rfl) ?_
      refine m_J_run hM 1 rfl ⟨trivial, trivial⟩ ?_
      refine m_J_if (fun hc => absurd hc (nI_nlt (by omega) (by omega))) (fun _ => ?_)
      refine m_J_run hM 4 rfl ⟨trivial, trivial, trivial, trivial, trivial⟩ ?_
      refine m_J_getf hM rfl rfl (h1) (rfl) ?_
      refine m_J_run hM 1 rfl ⟨trivial, trivial⟩ ?_
      refine m_J_getf hM rfl rfl (h1) (rfl) ?_
      refine m_callV (as := [.ref tl]) (rest := [.int br, .int wo, .ref z]) (m_EX_warm E N xs) hM rfl kw_X4_89 rfl rfl (h7.1) ⟨_, rfl, rfl⟩ (b_whole h7 h2) rfl (Nat.le_of_ble_eq_true rfl) (Nat.le_of_ble_eq_true rfl) (Nat.le_of_ble_eq_true rfl) (fun ht => ⟨ht, by simp⟩) ?_
      refine m_J_run hM 1 rfl ⟨trivial, trivial⟩ ?_
      refine m_J_callV (as := [.int wo, .int (br ||| k_bits (fun i => k_bw (q i) F) m)]) (rest := []) (m_EX_warm E N xs) hM rfl kw_X4_92 rfl rfl rfl h1 ⟨_, rfl, rfl⟩ (Nat.le_of_ble_eq_true rfl) (Nat.le_of_ble_eq_true rfl) (Nat.le_of_ble_eq_true rfl) (r_judge hR) (fun v' h' tg' hp => ?_) (fun nm h' hp => hp.elim)
      obtain ⟨rfl, rfl, hp1, hp2⟩ := hp
      refine ⟨fun ht => ⟨ht, by rw [hp2.1]; exact Nat.le_refl _⟩, ?_⟩
      exact m_J_vret hM rfl rfl (Nat.le_refl _) (Nat.le_refl _) ⟨rfl, rfl, hp1, hp2⟩
    · rw [if_neg hc]
      exact m_J_vret hM rfl rfl (Nat.le_refl _) (Nat.le_refl _) ⟨rfl, rfl, hR, k_fr_r _ h⟩
  | succ n ih =>
    intro d h F S wo br hn hR
    obtain ⟨h1, h2, h3, h4, h5, h6, h7, h8, h9, h10⟩ := id hR
    rw [k_pf_s]
    have hs6 := hsq (cnt - (n + 1)) (by omega)
    refine m_Sp_of (by decide) (Nat.le_of_ble_eq_true rfl) ?_
    refine m_J_run hM 1 rfl ⟨trivial, trivial⟩ ?_
    refine m_callS (as := [.int br]) (rest := []) (m_EX_warm E N xs) hM rfl kw_X4_83 rfl (s_ipc br) rfl (Nat.le_of_ble_eq_true rfl) (Nat.le_of_ble_eq_true rfl) (Nat.le_of_ble_eq_true rfl) (fun ht => ⟨ht, Nat.le_refl _⟩) ?_
    refine m_J_run hM 2 rfl ⟨trivial, trivial, trivial⟩ ?_
    refine m_J_if (fun hc => ?_) (fun hc => ?_)
    · rw [if_pos hc]
      refine m_J_run hM 2 rfl ⟨trivial, trivial, trivial⟩ ?_
      refine m_J_getf hM rfl rfl (h1) (rfl) ?_
      refine m_J_run hM 1 rfl ⟨trivial, trivial⟩ ?_
      refine m_J_if (fun _ => ?_) (fun hc => absurd (nI_lt (by omega) (by omega)) hc)
      refine m_J_run hM 1 rfl ⟨trivial, trivial⟩ ?_
      refine m_J_getf hM rfl rfl (h1) (rfl) ?_
      refine m_J_run hM 1 rfl ⟨trivial, trivial⟩ ?_
      refine m_ialdN hM rfl (h3) (by omega) (by omega) ?_
      refine m_J_run hM 3 rfl ⟨trivial, trivial, trivial, trivial⟩ ?_
      have loop : ∀ (k v : Nat) (l6 l7 : Option Value) (H : mH), v + k = 4 → k_SR H z tl tu tb s r w so sqa sqs cnt bu bb wb bk rw ad m q (k_ones q m so sqs cnt n wo br (F, S) v).1 (k_ones q m so sqs cnt n wo br (F, S) v).2 → k_fr [z, tb, bb, wb] h H →
          m_J l (m_EX E N xs) E mM_X4_putFrom (d + (n + 1) + 4) 0 0 (fun v H tg' => v = none ∧ tg' = tg ∧ k_SR H z tl tu tb s r w so sqa sqs cnt bu bb wb bk rw ad m q (k_ones q m so sqs cnt n wo br (F, S) 4).1 (k_ones q m so sqs cnt n wo br (F, S) 4).2 ∧ k_fr [z, tb, bb, wb] h H) m_no tg 0 0 (47, [some (.ref z), some (.int (nI (cnt - (n + 1)))), some (.int wo), some (.int br), some (.int (nI (sqs (cnt - (n + 1))))), some (.int (nI (v + 1))), l6, l7], [], H) := by
        intro k
        induction k with
        | zero =>
          intro v l6 l7 H hv hR hF
          have e : v = 4 := by omega
          subst e
          refine m_J_run hM 3 rfl ⟨trivial, trivial, trivial, trivial⟩ ?_
          refine m_J_if (fun _ => ?_) (fun hc => absurd (by decide) hc)
          exact m_J_vret hM rfl rfl (Nat.le_refl _) (Nat.le_refl _) ⟨rfl, rfl, hR, hF⟩
        | succ k ih2 =>
          intro v l6 l7 H hv hR hF
          obtain ⟨h1, h2, h3, h4, h5, h6, h7, h8, h9, h10⟩ := id hR
          have hout : k_ones q m so sqs cnt n wo br (F, S) (v + 1) = k_one q m so sqs cnt n wo br (v + 1) (k_ones q m so sqs cnt n wo br (F, S) v) := rfl
          generalize k_ones q m so sqs cnt n wo br (F, S) v = T at *
          obtain ⟨G, T⟩ := T
          dsimp only at hR h1 h2 h5 h6
          refine m_J_run hM 3 rfl ⟨trivial, trivial, trivial, trivial⟩ ?_
          refine m_J_if (fun hc => absurd hc (nI_nlt (by omega) (by omega))) (fun _ => ?_)
          refine m_J_run hM 1 rfl ⟨trivial, trivial⟩ ?_
          refine m_J_getf hM rfl rfl (h1) (rfl) ?_
          refine m_J_run hM 1 rfl ⟨trivial, trivial⟩ ?_
          refine m_J_getf hM rfl rfl (h1) (rfl) ?_
          refine m_J_run hM 2 rfl ⟨trivial, trivial, trivial⟩ ?_
          refine m_callV (as := [.ref tl, .int (nI (sqs (cnt - (n + 1)))), .int (nI (v + 1))]) (rest := []) (m_EX_warm E N xs) hM rfl kw_X4_96 rfl rfl (h7.1) ⟨_, rfl, rfl⟩ (b_worthPut hs6 (by omega) h7 h2) rfl (Nat.le_of_ble_eq_true rfl) (Nat.le_of_ble_eq_true rfl) (Nat.le_of_ble_eq_true rfl) (fun ht => ⟨ht, by simp⟩) ?_
          refine m_J_run hM 2 rfl ⟨trivial, trivial, trivial⟩ ?_
          refine m_J_getf hM rfl rfl (h1) (rfl) ?_
          refine m_J_run hM 1 rfl ⟨trivial, trivial⟩ ?_
          refine m_J_getf hM rfl rfl (h1) (rfl) ?_
          refine m_J_run hM 2 rfl ⟨trivial, trivial, trivial⟩ ?_
          refine m_callV (as := [.ref tl, .int (nI (sqs (cnt - (n + 1)))), .int (nI (v + 1))]) (rest := []) (m_EX_warm E N xs) hM rfl kw_X4_100 rfl rfl (h7.1) ⟨_, rfl, rfl⟩ (b_put hs6 (by omega) h7 h2) rfl (Nat.le_of_ble_eq_true rfl) (Nat.le_of_ble_eq_true rfl) (Nat.le_of_ble_eq_true rfl) (fun ht => ⟨ht, by simp⟩) ?_
          refine m_J_run hM 2 rfl ⟨trivial, trivial, trivial⟩ ?_
          refine m_J_getf hM rfl rfl (h1) (rfl) ?_
          refine m_J_getf hM rfl rfl (h2.1) (rfl) ?_
          refine m_J_run hM 1 rfl ⟨trivial, trivial⟩ ?_
          refine m_callS (as := [.int (nI (sqs (cnt - (n + 1))))]) (rest := [.ref tu]) (m_EX_warm E N xs) hM rfl kw_X4_103 rfl (s_only _) rfl (Nat.le_of_ble_eq_true rfl) (Nat.le_of_ble_eq_true rfl) (Nat.le_of_ble_eq_true rfl) (fun ht => ⟨ht, Nat.le_refl _⟩) ?_
          refine m_J_run hM 1 rfl ⟨trivial, trivial⟩ ?_
          refine m_callV (as := [.long (k_only (sqs (cnt - (n + 1)))), .int (nI (v + 1))]) (rest := []) (m_EX_warm E N xs) hM rfl kw_X4_107 rfl rfl (h2.2.1) ⟨_, rfl, rfl⟩ (u_put (by omega) h2.2.1 h2.2.2.1) rfl (Nat.le_of_ble_eq_true rfl) (Nat.le_of_ble_eq_true rfl) (Nat.le_of_ble_eq_true rfl) (fun ht => ⟨ht, by simp⟩) ?_
          refine m_J_run hM 11 rfl ⟨trivial, trivial, trivial, trivial, trivial, trivial, trivial, trivial, trivial, trivial, trivial, trivial⟩ ?_
          rw [nI_add, show cnt - (n + 1) + 1 = cnt - n by omega]
          have hR2 := k_SR_T (G := k_put G (k_only (sqs (cnt - (n + 1)))) (v + 1)) hR
          have hF2 : k_fr [z, tb, bb, wb] h (H.set tb (k_la 5 (k_put G (k_only (sqs (cnt - (n + 1)))) (v + 1)))) := k_fr_s hF (by simp)
          generalize H.set tb (k_la 5 (k_put G (k_only (sqs (cnt - (n + 1)))) (v + 1))) = H2 at hR2 hF2 ⊢
          refine m_J_callV (d := d + n + 4) (as := [.int (nI (cnt - n)), .int (wo + k_sum (fun i => k_lwp (q i) G so (sqs (cnt - (n + 1))) (v + 1)) m), .int (br ||| k_bits (fun i => k_bpp (q i) G (sqs (cnt - (n + 1))) (v + 1)) m)]) (rest := []) (m_EX_warm E N xs) hM rfl kw_X4_73 rfl rfl rfl hR2.1 ⟨_, rfl, rfl⟩ (Nat.le_of_ble_eq_true rfl) (Nat.le_of_ble_eq_true rfl) (Nat.le_of_ble_eq_true rfl) (ih d H2 _ _ _ _ (by omega) hR2) (fun v' h' tg' hp => ?_) (fun nm h' hp => hp.elim)
          obtain ⟨rfl, rfl, hp1, hp2⟩ := hp
          refine ⟨fun ht => ⟨ht, by rw [hp2.1]; exact Nat.le_refl _⟩, ?_⟩
          have hF3 := k_fr_t hF2 hp2
          obtain ⟨h1, h2, h3, h4, h5, h6, h7, h8, h9, h10⟩ := id hp1
          refine m_J_run hM 1 rfl ⟨trivial, trivial⟩ ?_
          refine m_J_getf hM rfl rfl (h1) (rfl) ?_
          refine m_J_getf hM rfl rfl (h2.1) (rfl) ?_
          refine m_J_run hM 1 rfl ⟨trivial, trivial⟩ ?_
          refine m_callS (as := [.int (nI (sqs (cnt - (n + 1))))]) (rest := [.ref tu]) (m_EX_warm E N xs) hM rfl kw_X4_103 rfl (s_only _) rfl (Nat.le_of_ble_eq_true rfl) (Nat.le_of_ble_eq_true rfl) (Nat.le_of_ble_eq_true rfl) (fun ht => ⟨ht, Nat.le_refl _⟩) ?_
          refine m_callV (as := [.long (k_only (sqs (cnt - (n + 1))))]) (rest := []) (m_EX_warm E N xs) hM rfl kw_X4_61 rfl rfl (h2.2.1) ⟨_, rfl, rfl⟩ (u_lift h2.2.1 h2.2.2.1) rfl (Nat.le_of_ble_eq_true rfl) (Nat.le_of_ble_eq_true rfl) (Nat.le_of_ble_eq_true rfl) (fun ht => ⟨ht, by simp⟩) ?_
          refine m_J_run hM 2 rfl ⟨trivial, trivial, trivial⟩ ?_
          refine m_eqS (ih2 (v + 1) (some (.int (k_sum (fun i => k_lwp (q i) G so (sqs (cnt - (n + 1))) (v + 1)) m))) (some (.int (k_bits (fun i => k_bpp (q i) G (sqs (cnt - (n + 1))) (v + 1)) m))) _ (by omega) (by rw [hout]; exact k_SR_T hp1) (k_fr_s hF3 (by simp))) ?_
          rw [k_succ (v + 1)]
          rfl
      exact loop 4 0 none none h rfl hR (k_fr_r _ h)
    · rw [if_neg hc]
      exact m_J_vret hM rfl rfl (Nat.le_refl _) (Nat.le_refl _) ⟨rfl, rfl, hR, k_fr_r _ h⟩
end
/-! listSquares and run -/
/-- the squares of a set, in their order: how many of the first n; which -/
def k_lc (x : Int64) : Nat → Nat
  | 0 => 0
  | n + 1 => if k_has x n = true ∧ k_lc x n < 5 then k_lc x n + 1 else k_lc x n
def k_lq (x : Int64) (g : Nat → Nat) : Nat → Nat → Nat
  | 0 => g
  | n + 1 => if k_has x n = true ∧ k_lc x n < 5 then (fun i => if i = k_lc x n then n else k_lq x g n i) else k_lq x g n
theorem k_lc_le (x : Int64) : ∀ n, k_lc x n ≤ 5 := by
  intro n
  induction n with
  | zero => simp [k_lc]
  | succ n ih =>
    rw [k_lc]
    split
    · rename_i hc; omega
    · exact ih
theorem k_lq_lt (x : Int64) (g : Nat → Nat) : ∀ n i, i < k_lc x n → k_lq x g n i < n := by
  intro n
  induction n with
  | zero => intro i hi; simp [k_lc] at hi
  | succ n ih =>
    intro i hi
    rw [k_lc] at hi
    rw [k_lq]
    split
    · rename_i hc
      rw [if_pos hc] at hi
      by_cases e : i = k_lc x n
      · simp [e]
      · have := ih i (by omega)
        simp [e]; omega
    · rename_i hc
      rw [if_neg hc] at hi
      have := ih i hi
      omega
section
variable {l : Launch} {E : mE} {N : Nat} {xs : Nat → Int32} {d : Nat} {tg : Bool} {h : mH} {z tl tu tb s r : Nat} {w : Nat → Nat} {so : Nat → Int32} {sqa : Nat} {sqs : Nat → Nat} {cnt bu bb wb bk rw : Nat} {ad : Nat → Nat} {m : Nat} {q : Nat → kL}
set_option maxHeartbeats 1000000 in
theorem r_list {x : Int64} {fd : Bool} {bw : Int32} (h1 : h[z]? = some (k_so tl sqa bu wb bk cnt fd bw)) (h3 : h[sqa]? = some (k_ia 5 (fun i => nI (sqs i)))) : m_Dt l (m_EX E N xs) E mM_X4_listSquares (d + 2) 0 0 [.ref z, .long x] h tg none ((h.set sqa (k_ia 5 (fun i => nI (k_lq x sqs 60 i)))).set z (k_so tl sqa bu wb bk (k_lc x 60) fd bw)) tg := by
  have hM := mM_X4_listSquares_ok
  have hzs := k_ne h1 h3
  refine m_Sp_of (by decide) (Nat.le_of_ble_eq_true rfl) ?_
  refine m_J_run hM 2 rfl ⟨trivial, trivial, trivial⟩ ?_
  refine m_J_putf hM rfl rfl (h1) (rfl) ?_
  refine m_J_run hM 2 rfl ⟨trivial, trivial, trivial⟩ ?_
  have loop : ∀ n i : Nat, i + n = 60 → m_J l (m_EX E N xs) E mM_X4_listSquares (d + 2) 0 0 (m_K none ((h.set sqa (k_ia 5 (fun i => nI (k_lq x sqs 60 i)))).set z (k_so tl sqa bu wb bk (k_lc x 60) fd bw)) tg) m_no tg 0 0 (7, [some (.ref z), some (.long x), none, some (.int (nI i))], [], (h.set sqa (k_ia 5 (fun j => nI (k_lq x sqs i j)))).set z (k_so tl sqa bu wb bk (k_lc x i) fd bw)) := by
    intro n
    induction n with
    | zero =>
      intro i hi
      have e : i = 60 := by omega
      subst e
      refine m_J_run hM 3 rfl ⟨trivial, trivial, trivial, trivial⟩ ?_
      refine m_J_if (fun _ => ?_) (fun hc => absurd (by decide) hc)
      exact m_vret hM rfl rfl (Nat.le_of_ble_eq_true rfl) (Nat.le_of_ble_eq_true rfl) (rfl)
    | succ n ih =>
      intro i hi
      have hz : ((h.set sqa (k_ia 5 (fun j => nI (k_lq x sqs i j)))).set z (k_so tl sqa bu wb bk (k_lc x i) fd bw))[z]? = some (k_so tl sqa bu wb bk (k_lc x i) fd bw) := k_ss (k_sn hzs h1)
      have hq : ((h.set sqa (k_ia 5 (fun j => nI (k_lq x sqs i j)))).set z (k_so tl sqa bu wb bk (k_lc x i) fd bw))[sqa]? = some (k_ia 5 (fun j => nI (k_lq x sqs i j))) := k_sn (Ne.symm hzs) (k_ss h3)
      have e1 : k_lc x (i + 1) = if k_has x i = true ∧ k_lc x i < 5 then k_lc x i + 1 else k_lc x i := rfl
      have e2 : k_lq x sqs (i + 1) = if k_has x i = true ∧ k_lc x i < 5 then (fun j => if j = k_lc x i then i else k_lq x sqs i j) else k_lq x sqs i := rfl
      have hle := k_lc_le x i
      refine m_J_run hM 3 rfl ⟨trivial, trivial, trivial, trivial⟩ ?_
      refine m_J_if (fun hc => absurd hc (nI_ge (by omega) (by omega))) (fun _ => ?_)
      refine m_J_run hM 2 rfl ⟨trivial, trivial, trivial⟩ ?_
      refine m_callS (as := [.long x, .int (nI i)]) (rest := []) (m_EX_warm E N xs) hM rfl kw_X4_77 rfl (s_has _ i) rfl (Nat.le_of_ble_eq_true rfl) (Nat.le_of_ble_eq_true rfl) (Nat.le_of_ble_eq_true rfl) (fun ht => ⟨ht, Nat.le_refl _⟩) ?_
      refine m_J_run hM 1 rfl ⟨trivial, trivial⟩ ?_
      refine m_J_if (fun hc => ?_) (fun hc => ?_)
      · have hc2 := k_z0 hc
        refine m_J_run hM 2 rfl ⟨trivial, trivial, trivial⟩ ?_
        refine m_eqS (ih (i + 1) (by omega)) ?_
        rw [k_succ i, e1, e2, if_neg (by rw [hc2]; simp), if_neg (by rw [hc2]; simp)]
        rfl
      · have hc2 := k_z1 hc
        refine m_J_run hM 1 rfl ⟨trivial, trivial⟩ ?_
        refine m_J_getf hM rfl rfl (hz) (rfl) ?_
        refine m_J_run hM 2 rfl ⟨trivial, trivial, trivial⟩ ?_
        refine m_J_if (fun hc3 => ?_) (fun hc3 => ?_)
        · have h5 : ¬ k_lc x i < 5 := fun q => nI_ge q (by omega) hc3
          refine m_J_run hM 2 rfl ⟨trivial, trivial, trivial⟩ ?_
          refine m_eqS (ih (i + 1) (by omega)) ?_
          rw [k_succ i, e1, e2, if_neg (fun q => h5 q.2), if_neg (fun q => h5 q.2)]
          rfl
        · have h5 : k_lc x i < 5 := by
            rcases Nat.lt_or_ge (k_lc x i) 5 with q | q
            · exact q
            · exact absurd (nI_le q (by omega)) hc3
          refine m_J_run hM 1 rfl ⟨trivial, trivial⟩ ?_
          refine m_J_getf hM rfl rfl (hz) (rfl) ?_
          refine m_J_run hM 1 rfl ⟨trivial, trivial⟩ ?_
          refine m_J_getf hM rfl rfl (hz) (rfl) ?_
          refine m_J_run hM 1 rfl ⟨trivial, trivial⟩ ?_
          refine m_iastN hM rfl (hq) (by omega) (by omega) ?_
          refine m_J_run hM 2 rfl ⟨trivial, trivial, trivial⟩ ?_
          refine m_J_getf hM rfl rfl (k_sn hzs hz) (rfl) ?_
          refine m_J_run hM 2 rfl ⟨trivial, trivial, trivial⟩ ?_
          rw [← k_succ]
          refine m_J_putf hM rfl rfl (k_sn hzs hz) (rfl) ?_
          refine m_J_run hM 2 rfl ⟨trivial, trivial, trivial⟩ ?_
          refine m_eqS (ih (i + 1) (by omega)) ?_
          rw [k_succ i, e1, e2, if_pos ⟨hc2, h5⟩, if_pos ⟨hc2, h5⟩]
          have e5 : (fun j => nI (if j = k_lc x i then i else k_lq x sqs i j)) = upd (fun j => nI (k_lq x sqs i j)) (k_lc x i) (nI i) := by
            funext j
            unfold upd
            by_cases hj : j = k_lc x i <;> simp [hj]
          rw [e5, List.set_comm _ _ hzs, k_s2, k_s2]
          rfl
  have h0 := loop 60 0 rfl
  rw [show k_lq x sqs 0 = sqs from rfl, k_s0 h3] at h0
  exact h0
end
