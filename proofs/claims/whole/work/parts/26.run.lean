/-! SEARCH: run -/
/-- the trial's uses at the start, and the answer of the whole search -/
def k_F0 (f g : Nat → Int64) (x : Int64) : Nat → Int64 := k_lift (k_upto f g 5) x
def k_run (q : Nat → kL) (m : Nat) (so : Nat → Int32) (f g : Nat → Int64) (x : Int64) (sqs : Nat → Nat) (B : Nat → Int64) (W : Nat → Int32) : (Nat → Int64) × kS :=
  k_pf q m so (k_lq x sqs 60) (k_lc x 60) (k_lc x 60) (k_sum (fun i => k_lw (q i) (k_F0 f g x) so) m) (k_bits (fun i => k_bp (q i) (k_F0 f g x)) m) (k_F0 f g x, (false, nI 0, B, k_upto (fun _ => -1000000000) W 14))
section
variable {l : Launch} {E : mE} {N : Nat} {xs : Nat → Int32} {d : Nat} {tg : Bool} {h : mH} {z tl tu tb s r : Nat} {w : Nat → Nat} {so : Nat → Int32} {sqa : Nat} {sqs : Nat → Nat} {cnt bu bb wb bk0 bk rw : Nat} {ad : Nat → Nat} {m : Nat} {q : Nat → kL} {la lu lb : Nat} {f g B : Nat → Int64} {W : Nat → Int32} {fd : Bool} {bw : Int32} {x : Int64}
set_option maxHeartbeats 2000000 in
theorem r_run (h1 : h[z]? = some (k_so tl sqa bu wb bk0 cnt fd bw)) (hT : k_LD h tl tu tb s r w g so) (hL : k_LD h la lu lb s r w f so) (h3 : h[sqa]? = some (k_ia 5 (fun i => nI (sqs i)))) (h4 : h[bu]? = some (k_uses bb)) (h5 : h[bb]? = some (k_la 5 B)) (h6 : h[wb]? = some (k_ia 14 W)) (h7 : k_BK h bk rw ad m q) (h8 : tb ≠ bb) (h9 : wb ≠ sqa) (h10 : wb ≠ s) (h11 : sqa ≠ s) (h12 : lb ≠ tb) :
    m_Sp l (m_EX E N xs) E mM_X4_run (d + 10) 0 0 [.ref z, .ref la, .ref bk, .long x] h tg (fun v H tg' => v = none ∧ tg' = tg ∧ k_SR H z tl tu tb s r w so sqa (k_lq x sqs 60) (k_lc x 60) bu bb wb bk rw ad m q (k_run q m so f g x sqs B W).1 (k_run q m so f g x sqs B W).2 ∧ k_fr [z, tb, bb, wb, sqa] h H) m_no := by
  have hM := mM_X4_run_ok
  have hzw := k_ne h1 h6
  refine m_Sp_of (by decide) (Nat.le_of_ble_eq_true rfl) ?_
  refine m_J_run hM 2 rfl ⟨trivial, trivial, trivial⟩ ?_
  refine m_J_putf hM rfl rfl (h1) (rfl) ?_
  refine m_J_run hM 2 rfl ⟨trivial, trivial, trivial⟩ ?_
  refine m_J_putf hM rfl rfl (k_ss h1) rfl ?_
  rw [k_s2]
  refine m_J_run hM 2 rfl ⟨trivial, trivial, trivial⟩ ?_
  refine m_J_putf hM rfl rfl (k_ss h1) rfl ?_
  rw [k_s2]
  refine m_J_run hM 2 rfl ⟨trivial, trivial, trivial⟩ ?_
  have hz1 : ∀ c : va_E, (h.set z (k_so tl sqa bu wb bk cnt false (nI 0)))[wb]? = some (k_ia 14 W) := fun _ => k_sn (Ne.symm hzw) h6
  have loop : ∀ n i : Nat, i + n = 14 → ∀ PR9 : Option Value → mH → Bool → Prop, (∀ v5, m_J l (m_EX E N xs) E mM_X4_run (d + 10) 0 0 PR9 m_no tg 0 0 (40, [some (.ref z), some (.ref la), some (.ref bk), some (.long x), none, v5], [], (h.set z (k_so tl sqa bu wb bk cnt false (nI 0))).set wb (k_ia 14 (k_upto (fun _ => -1000000000) W 14)))) →
      m_J l (m_EX E N xs) E mM_X4_run (d + 10) 0 0 PR9 m_no tg 0 0 (18, [some (.ref z), some (.ref la), some (.ref bk), some (.long x), none, some (.int (nI i))], [], (h.set z (k_so tl sqa bu wb bk cnt false (nI 0))).set wb (k_ia 14 (k_upto (fun _ => -1000000000) W i))) := by
    intro n
    induction n with
    | zero =>
      intro i hi PR9 hk
      have e : i = 14 := by omega
      subst e
      refine m_J_run hM 3 rfl ⟨trivial, trivial, trivial, trivial⟩ ?_
      refine m_J_if (fun _ => ?_) (fun hc => absurd (by decide) hc)
      exact hk _
    | succ n ih =>
      intro i hi PR9 hk
      refine m_J_run hM 3 rfl ⟨trivial, trivial, trivial, trivial⟩ ?_
      refine m_J_if (fun hc => absurd hc (nI_ge (by omega) (by omega))) (fun _ => ?_)
      refine m_J_run hM 1 rfl ⟨trivial, trivial⟩ ?_
      refine m_J_getf hM rfl rfl (k_sn hzw (k_ss h1)) (rfl) ?_
      refine m_J_run hM 2 rfl ⟨trivial, trivial, trivial⟩ ?_
      refine m_iastN hM rfl (k_ss (hz1 (k_ia 0 (fun _ => 0)))) (by omega) (by omega) ?_
      rw [k_s2, show upd (k_upto (fun _ => -1000000000) W i) i (-1000000000) = k_upto (fun _ => -1000000000) W (i + 1) from k_upto_I (fun _ => -1000000000) W i]
      refine m_J_run hM 2 rfl ⟨trivial, trivial, trivial⟩ ?_
      refine m_eqS (ih (i + 1) (by omega) PR9 hk) ?_
      rw [k_succ i]
      rfl
  have h0 := loop 14 0 rfl
  rw [k_upto_0, k_s0 (hz1 (k_ia 0 (fun _ => 0)))] at h0
  refine h0 _ (fun v5 => ?_)
  clear h0 loop
  -- the heap behind the loop
  have hfr : k_fr [z, tb, bb, wb, sqa] h ((h.set z (k_so tl sqa bu wb bk cnt false (nI 0))).set wb (k_ia 14 (k_upto (fun _ => -1000000000) W 14))) := k_fr_s (k_fr_s (k_fr_r _ h) (by simp)) (by simp)
  have a1 : ((h.set z (k_so tl sqa bu wb bk cnt false (nI 0))).set wb (k_ia 14 (k_upto (fun _ => -1000000000) W 14)))[z]? = some (k_so tl sqa bu wb bk cnt false (nI 0)) := k_sn hzw (k_ss h1)
  have a2 := k_LD_int (z := k_ia 14 (k_upto (fun _ => -1000000000) W 14)) (k_LD_obj (z := k_so tl sqa bu wb bk cnt false (nI 0)) hT h1) (hz1 (k_ia 0 (fun _ => 0))) (Ne.symm h10)
  have a2' := k_LD_int (z := k_ia 14 (k_upto (fun _ => -1000000000) W 14)) (k_LD_obj (z := k_so tl sqa bu wb bk cnt false (nI 0)) hL h1) (hz1 (k_ia 0 (fun _ => 0))) (Ne.symm h10)
  have a3 : ((h.set z (k_so tl sqa bu wb bk cnt false (nI 0))).set wb (k_ia 14 (k_upto (fun _ => -1000000000) W 14)))[sqa]? = some (k_ia 5 (fun i => nI (sqs i))) := k_sn (Ne.symm h9) (k_sn (Ne.symm (k_ne h1 h3)) h3)
  have a4 : ((h.set z (k_so tl sqa bu wb bk cnt false (nI 0))).set wb (k_ia 14 (k_upto (fun _ => -1000000000) W 14)))[bu]? = some (k_uses bb) := k_sn (k_ne h4 h6) (k_sn (k_neO h4 h1 (by simp)) h4)
  have a5 : ((h.set z (k_so tl sqa bu wb bk cnt false (nI 0))).set wb (k_ia 14 (k_upto (fun _ => -1000000000) W 14)))[bb]? = some (k_la 5 B) := k_sn (k_neT h5 h6 (by simp)) (k_sn (Ne.symm (k_ne h1 h5)) h5)
  have a6 : ((h.set z (k_so tl sqa bu wb bk cnt false (nI 0))).set wb (k_ia 14 (k_upto (fun _ => -1000000000) W 14)))[wb]? = some (k_ia 14 (k_upto (fun _ => -1000000000) W 14)) := k_ss (hz1 (k_ia 0 (fun _ => 0)))
  have a7 := k_BK_int (z := k_ia 14 (k_upto (fun _ => -1000000000) W 14)) (k_BK_obj (z := k_so tl sqa bu wb bk cnt false (nI 0)) h7 h1) (hz1 (k_ia 0 (fun _ => 0)))
  generalize (h.set z (k_so tl sqa bu wb bk cnt false (nI 0))).set wb (k_ia 14 (k_upto (fun _ => -1000000000) W 14)) = H at *
  clear hz1
  obtain ⟨W2, hW2⟩ : ∃ W2, W2 = k_upto (fun _ => (-1000000000 : Int32)) W 14 := ⟨_, rfl⟩
  rw [← hW2] at a6
  refine m_J_run hM 2 rfl ⟨trivial, trivial, trivial⟩ ?_
  refine m_callV (as := [.long x]) (rest := []) (m_EX_warm E N xs) hM rfl kw_X4_50 rfl rfl (a1) ⟨_, rfl, rfl⟩ (r_list a1 a3) rfl (Nat.le_of_ble_eq_true rfl) (Nat.le_of_ble_eq_true rfl) (Nat.le_of_ble_eq_true rfl) (fun ht => ⟨ht, by simp⟩) ?_
  have hqs := k_ne a1 a3
  have hfr2 : k_fr [z, tb, bb, wb, sqa] h ((H.set sqa (k_ia 5 (fun i => nI (k_lq x sqs 60 i)))).set z (k_so tl sqa bu wb bk (k_lc x 60) false (nI 0))) := k_fr_s (k_fr_s hfr (by simp)) (by simp)
  have hs1 : (H.set sqa (k_ia 5 (fun i => nI (k_lq x sqs 60 i))))[z]? = some (k_so tl sqa bu wb bk cnt false (nI 0)) := k_sn hqs a1
  have b1 : ((H.set sqa (k_ia 5 (fun i => nI (k_lq x sqs 60 i)))).set z (k_so tl sqa bu wb bk (k_lc x 60) false (nI 0)))[z]? = some (k_so tl sqa bu wb bk (k_lc x 60) false (nI 0)) := k_ss hs1
  have b2 := k_LD_obj (z := k_so tl sqa bu wb bk (k_lc x 60) false (nI 0)) (k_LD_int (z := k_ia 5 (fun i => nI (k_lq x sqs 60 i))) a2 a3 (Ne.symm h11)) hs1
  have b2' := k_LD_obj (z := k_so tl sqa bu wb bk (k_lc x 60) false (nI 0)) (k_LD_int (z := k_ia 5 (fun i => nI (k_lq x sqs 60 i))) a2' a3 (Ne.symm h11)) hs1
  have b3 : ((H.set sqa (k_ia 5 (fun i => nI (k_lq x sqs 60 i)))).set z (k_so tl sqa bu wb bk (k_lc x 60) false (nI 0)))[sqa]? = some (k_ia 5 (fun i => nI (k_lq x sqs 60 i))) := k_sn (Ne.symm hqs) (k_ss a3)
  have b4 : ((H.set sqa (k_ia 5 (fun i => nI (k_lq x sqs 60 i)))).set z (k_so tl sqa bu wb bk (k_lc x 60) false (nI 0)))[bu]? = some (k_uses bb) := k_sn (k_neO a4 a1 (by simp)) (k_sn (k_ne a4 a3) a4)
  have b5 : ((H.set sqa (k_ia 5 (fun i => nI (k_lq x sqs 60 i)))).set z (k_so tl sqa bu wb bk (k_lc x 60) false (nI 0)))[bb]? = some (k_la 5 B) := k_sn (Ne.symm (k_ne a1 a5)) (k_sn (k_neT a5 a3 (by simp)) a5)
  have b6 : ((H.set sqa (k_ia 5 (fun i => nI (k_lq x sqs 60 i)))).set z (k_so tl sqa bu wb bk (k_lc x 60) false (nI 0)))[wb]? = some (k_ia 14 W2) := k_sn (Ne.symm (k_ne a1 a6)) (k_sn h9 a6)
  have b7 := k_BK_obj (z := k_so tl sqa bu wb bk (k_lc x 60) false (nI 0)) (k_BK_int (z := k_ia 5 (fun i => nI (k_lq x sqs 60 i))) a7 a3) hs1
  generalize (H.set sqa (k_ia 5 (fun i => nI (k_lq x sqs 60 i)))).set z (k_so tl sqa bu wb bk (k_lc x 60) false (nI 0)) = H2 at *
  clear a1 a2 a2' a3 a4 a5 a6 a7 hs1 hfr hqs
  refine m_J_run hM 1 rfl ⟨trivial, trivial⟩ ?_
  refine m_J_getf hM rfl rfl (b1) (rfl) ?_
  refine m_J_getf hM rfl rfl (b2.1) (rfl) ?_
  refine m_J_run hM 1 rfl ⟨trivial, trivial⟩ ?_
  refine m_J_getf hM rfl rfl (b2'.1) (rfl) ?_
  refine m_callV (as := [.ref lu]) (rest := []) (m_EX_warm E N xs) hM rfl kw_X4_57 rfl rfl (b2.2.1) ⟨_, rfl, rfl⟩ (u_become b2.2.1 b2.2.2.1 b2'.2.1 b2'.2.2.1 h12) rfl (Nat.le_of_ble_eq_true rfl) (Nat.le_of_ble_eq_true rfl) (Nat.le_of_ble_eq_true rfl) (fun ht => ⟨ht, by simp⟩) ?_
  have c2 := k_LD_self (g := k_upto f g 5) b2
  have hSR : k_SR (H2.set tb (k_la 5 (k_upto f g 5))) z tl tu tb s r w so sqa (k_lq x sqs 60) (k_lc x 60) bu bb wb bk rw ad m q (k_upto f g 5) (false, nI 0, B, W2) :=
    ⟨k_sn (k_ne b1 b2.2.2.1) b1, c2, k_sn (k_neT b3 b2.2.2.1 (by simp)) b3, k_sn (k_ne b4 b2.2.2.1) b4, k_sn (Ne.symm h8) b5, k_sn (k_neT b6 b2.2.2.1 (by simp)) b6, k_BK_set b7 b2.2.2.1, h8, h9, h10⟩
  have hfr3 : k_fr [z, tb, bb, wb, sqa] h (H2.set tb (k_la 5 (k_upto f g 5))) := k_fr_s hfr2 (by simp)
  generalize H2.set tb (k_la 5 (k_upto f g 5)) = H3 at *
  clear b1 b2 b2' b3 b4 b5 b6 b7 c2 hfr2
  have e1 := hSR.1
  have e2 := hSR.2.1
  refine m_J_run hM 1 rfl ⟨trivial, trivial⟩ ?_
  refine m_J_getf hM rfl rfl (e1) (rfl) ?_
  refine m_J_getf hM rfl rfl (e2.1) (rfl) ?_
  refine m_J_run hM 1 rfl ⟨trivial, trivial⟩ ?_
  refine m_callV (as := [.long x]) (rest := []) (m_EX_warm E N xs) hM rfl kw_X4_61 rfl rfl (e2.2.1) ⟨_, rfl, rfl⟩ (u_lift e2.2.1 e2.2.2.1) rfl (Nat.le_of_ble_eq_true rfl) (Nat.le_of_ble_eq_true rfl) (Nat.le_of_ble_eq_true rfl) (fun ht => ⟨ht, by simp⟩) ?_
  have hSR2 := k_SR_T (G := k_lift (k_upto f g 5) x) hSR
  have hfr4 : k_fr [z, tb, bb, wb, sqa] h (H3.set tb (k_la 5 (k_lift (k_upto f g 5) x))) := k_fr_s hfr3 (by simp)
  generalize H3.set tb (k_la 5 (k_lift (k_upto f g 5) x)) = H4 at *
  clear e1 e2 hSR hfr3
  have e1 := hSR2.1
  have e2 := hSR2.2.1
  have e7 := hSR2.2.2.2.2.2.2.1
  refine m_J_run hM 4 rfl ⟨trivial, trivial, trivial, trivial, trivial⟩ ?_
  refine m_J_getf hM rfl rfl (e1) (rfl) ?_
  refine m_callV (as := [.ref tl]) (rest := [.int (nI 0), .ref z]) (m_EX_warm E N xs) hM rfl kw_X4_64 rfl rfl (e7.1) ⟨_, rfl, rfl⟩ (b_worth e7 e2) rfl (Nat.le_of_ble_eq_true rfl) (Nat.le_of_ble_eq_true rfl) (Nat.le_of_ble_eq_true rfl) (fun ht => ⟨ht, by simp⟩) ?_
  refine m_J_run hM 2 rfl ⟨trivial, trivial, trivial⟩ ?_
  refine m_J_getf hM rfl rfl (e1) (rfl) ?_
  refine m_callV (as := [.ref tl]) (rest := [.int (k_sum (fun i => k_lw (q i) (k_lift (k_upto f g 5) x) so) m), .int (nI 0), .ref z]) (m_EX_warm E N xs) hM rfl kw_X4_70 rfl rfl (e7.1) ⟨_, rfl, rfl⟩ (b_pair e7 e2) rfl (Nat.le_of_ble_eq_true rfl) (Nat.le_of_ble_eq_true rfl) (Nat.le_of_ble_eq_true rfl) (fun ht => ⟨ht, by simp⟩) ?_
  have hp0 := r_put (l := l) (E := E) (N := N) (xs := xs) (tg := tg) (k_lc_le x 60) (fun i hi => k_lq_lt x sqs 60 i hi) (k_lc x 60) (d + (5 - k_lc x 60)) H4 _ _ (k_sum (fun i => k_lw (q i) (k_lift (k_upto f g 5) x) so) m) (k_bits (fun i => k_bp (q i) (k_lift (k_upto f g 5) x)) m) (Nat.le_refl _) hSR2
  rw [Nat.sub_self, show d + (5 - k_lc x 60) + k_lc x 60 + 4 = d + 9 by have := k_lc_le x 60; omega] at hp0
  refine m_J_callV (d := d + 9) (as := [.int (nI 0), .int (k_sum (fun i => k_lw (q i) (k_lift (k_upto f g 5) x) so) m), .int (k_bits (fun i => k_bp (q i) (k_lift (k_upto f g 5) x)) m)]) (rest := []) (m_EX_warm E N xs) hM rfl kw_X4_73 rfl rfl rfl e1 ⟨_, rfl, rfl⟩ (Nat.le_of_ble_eq_true rfl) (Nat.le_of_ble_eq_true rfl) (Nat.le_of_ble_eq_true rfl) hp0 (fun v' h' tg' hp => ?_) (fun nm h' hp => hp.elim)
  obtain ⟨rfl, rfl, hp1, hp2⟩ := hp
  refine ⟨fun ht => ⟨ht, by rw [hp2.1]; exact Nat.le_refl _⟩, ?_⟩
  have hp3 : k_fr [z, tb, bb, wb, sqa] H4 h' := ⟨hp2.1, fun k hk => hp2.2 k (fun q9 => hk (by simp at q9 ⊢; rcases q9 with q9 | q9 | q9 | q9 <;> simp [q9]))⟩
  subst hW2
  exact m_J_vret hM rfl rfl (Nat.le_refl _) (Nat.le_refl _) ⟨rfl, rfl, hp1, k_fr_t hfr4 hp3⟩
end
