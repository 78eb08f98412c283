/-! READER: semicolons and the whole book -/
def k_rs (g : Nat → Int32) (n : Nat) (R : kR) : Bool × kR :=
  if R.2 ≠ -nI 1 ∨ k_at g n (k_sb g n R.1) = -nI 1 then (false, (k_sb g n R.1, R.2))
  else if k_at g n (k_sb g n R.1) = nI 59 then (true, (k_sb g n R.1 + 1, R.2)) else (false, k_refuse (k_sb g n R.1, R.2))
theorem k_rs_le {g : Nat → Int32} {n : Nat} {R : kR} (hp : R.1 ≤ n) : (k_rs g n R).2.1 ≤ n := by
  have h1 := (k_sb_le (g := g) hp).2
  unfold k_rs
  split
  · exact h1
  · split
    · rename_i h3
      rcases Nat.lt_or_ge (k_sb g n R.1) n with q | q
      · exact q
      · exfalso
        rw [k_at, if_neg (by omega)] at h3
        exact absurd h3 (by decide)
    · exact h1
def k_uq (q : Nat → kL) (i : Nat) (x : kL) : Nat → kL := fun j => if j = i then x else q j
def k_ril (g : Nat → Int32) (n : Nat) : Nat → Nat → kR → (Nat → kL) → Bool → Nat × Bool × kR × (Nat → kL)
  | 0, i, R, q, b => (i, b, R, q)
  | f + 1, i, R, q, b => if b then k_ril g n f (i + 1) (k_rs g n (k_rline g n (q i) R).2).2 (k_uq q i (k_rline g n (q i) R).1) (k_rs g n (k_rline g n (q i) R).2).1 else (i, b, R, q)
def k_ri0 (g : Nat → Int32) (n : Nat) (q : Nat → kL) : Nat × Bool × kR × (Nat → kL) := k_ril g n 14 0 (k_sb g n 0, -nI 1) q (decide (k_at g n (k_sb g n 0) ≠ -nI 1))
def k_ri (g : Nat → Int32) (n : Nat) (q : Nat → kL) : Nat × kR × (Nat → kL) :=
  ((k_ri0 g n q).1, (if (k_ri0 g n q).2.1 then k_refuse (k_sb g n (k_ri0 g n q).2.2.1.1, (k_ri0 g n q).2.2.1.2) else (k_ri0 g n q).2.2.1), (k_ri0 g n q).2.2.2)
theorem k_fr_w {A B : List Nat} {h H : mH} (h1 : k_fr A h H) (hs : ∀ k, k ∈ A → k ∈ B) : k_fr B h H := ⟨h1.1, fun k hk => h1.2 k (fun q => hk (hs k q))⟩
theorem m_J_eqH {l : Launch} {EX : State → Prop} {E : mE} {M : mM} {d mc ms : Nat} {PR : Option Value → mH → Bool → Prop} {PX : String → mH → Prop} {tg : Bool} {kc ks pc : Nat} {L : List (Option Value)} {st : List Value} {H H' : mH} (he : H = H') (h2 : m_J l EX E M d mc ms PR PX tg kc ks (pc, L, st, H')) : m_J l EX E M d mc ms PR PX tg kc ks (pc, L, st, H) := he ▸ h2
theorem k_BK_fr {h H : mH} {a rw : Nat} {ad : Nat → Nat} {n : Nat} {q : Nat → kL} {z i : Nat} {x : kL} {fs : List Value} (hB : k_BK h a rw ad n q) (hin : ∀ i j, i < 14 → j < 14 → ad i = ad j → i = j) (hi : i < 14) (hz : h[z]? = some (.inr (3, fs))) (hF : k_fr [z, ad i] h H) (hx : H[ad i]? = some (k_ln x)) (hk : k_lok x) : k_BK H a rw ad n (k_uq q i x) := by
  obtain ⟨h1, h2, h3, h4, h5⟩ := hB
  have e1 : a ≠ z := k_neO h1 hz (by decide)
  have e2 : a ≠ ad i := k_neO h1 (h3 i hi) (by decide)
  have e3 : rw ≠ z := Ne.symm (k_ne hz h2)
  have e4 : rw ≠ ad i := Ne.symm (k_ne (h3 i hi) h2)
  refine ⟨by rw [hF.2 a (by simp [e1, e2])]; exact h1, by rw [hF.2 rw (by simp [e3, e4])]; exact h2, ?_, h4, ?_⟩
  · intro j hj
    by_cases e : j = i
    · subst e
      rw [k_uq, if_pos rfl]
      exact hx
    · rw [k_uq, if_neg e, hF.2 (ad j) (by simp [k_neO (h3 j hj) hz (by decide)]; exact fun q => e (hin j i hj hi q))]
      exact h3 j hj
  · intro j hj
    rw [k_uq]
    split
    · exact hk
    · exact h5 j hj
theorem k_BK_z {h : mH} {a rw : Nat} {ad : Nat → Nat} {n : Nat} {q : Nat → kL} {z ci : Nat} {fs : List Value} {c : va_E} (hB : k_BK h a rw ad n q) (hz : h[z]? = some (.inr (ci, fs))) (h0 : ci ≠ 0) (h2' : ci ≠ 2) : k_BK (h.set z c) a rw ad n q := by
  obtain ⟨h1, h2, h3, h4⟩ := hB
  exact ⟨k_sn (k_neO h1 hz (Ne.symm h0)) h1, k_sn (Ne.symm (k_ne hz h2)) h2, fun i hi => k_sn (k_neO (h3 i hi) hz (Ne.symm h2')) (h3 i hi), h4⟩
theorem k_BK_n {h : mH} {a rw : Nat} {ad : Nat → Nat} {n n' : Nat} {q : Nat → kL} (hB : k_BK h a rw ad n q) (hn : n' ≤ 14) : k_BK (h.set a (.inr (0, [.ref rw, .int (nI n')]))) a rw ad n' q := by
  obtain ⟨h1, h2, h3, h4, h5⟩ := hB
  exact ⟨k_ss h1, k_sn (Ne.symm (k_ne h1 h2)) h2, fun i hi => k_sn (k_neO (h3 i hi) h1 (by decide)) (h3 i hi), hn, h5⟩
theorem k_TP_o {h : mH} {z tp tb p : Nat} {wr : Int32} {n : Nat} {g : Nat → Int32} {a ci : Nat} {fs : List Value} {c : va_E} (hT : k_TP h z tp tb p wr n g) (ha : h[a]? = some (.inr (ci, fs))) (h3' : ci ≠ 3) (h5' : ci ≠ 5) : k_TP (h.set a c) z tp tb p wr n g := by
  obtain ⟨h1, h2, h3, h4⟩ := hT
  exact ⟨k_sn (k_neO h1 ha (Ne.symm h3')) h1, k_sn (k_neO h2 ha (Ne.symm h5')) h2, k_sn (Ne.symm (k_ne ha h3)) h3, h4⟩
section
variable {l : Launch} {E : mE} {N : Nat} {xs : Nat → Int32} {d : Nat} {tg : Bool} {h : mH} {z tp tb : Nat} {R : kR} {n : Nat} {g : Nat → Int32}
theorem t_semi (hp : R.1 ≤ n) (hT : k_TP h z tp tb R.1 R.2 n g) : m_Dt l (m_EX E N xs) E mM_X3_readSemicolon (d + 2) 0 0 [.ref z] h tg (some (.int (k_z (k_rs g n R).1))) (h.set z (k_rd tp (k_rs g n R).2.1 (k_rs g n R).2.2)) tg := by
  have hM := mM_X3_readSemicolon_ok
  refine m_Sp_of (by decide) (Nat.le_of_ble_eq_true rfl) ?_
  obtain ⟨p, wr⟩ := R
  dsimp only at hp hT ⊢
  unfold k_rs k_refuse
  dsimp only
  refine m_J_run hM 1 rfl ⟨trivial, trivial⟩ ?_
  refine m_callV (as := []) (rest := []) (m_EX_warm E N xs) hM rfl kw_X3_27 rfl rfl (hT.1) ⟨_, rfl, rfl⟩ (t_sb hp hT) rfl (Nat.le_of_ble_eq_true rfl) (Nat.le_of_ble_eq_true rfl) (Nat.le_of_ble_eq_true rfl) (fun ht => ⟨ht, by simp⟩) ?_
  replace hT := k_TP_z (p' := k_sb g n p) (wr' := wr) hT
  have hp2 := (k_sb_le (g := g) hp).2
  have hn := hT.2.2.2
  rw [← k_s2 h z (k_rd tp (k_sb g n p) wr)]
  generalize h.set z (k_rd tp (k_sb g n p) wr) = H at hT ⊢
  generalize k_sb g n p = P at hT hp2 ⊢
  obtain ⟨h1, h2, h3, h4⟩ := id hT
  refine m_J_run hM 1 rfl ⟨trivial, trivial⟩ ?_
  refine m_J_getf hM rfl rfl (h1) (rfl) ?_
  refine m_J_run hM 2 rfl ⟨trivial, trivial, trivial⟩ ?_
  refine m_J_if (fun hc => ?_) (fun hc => ?_)
  · refine m_J_run hM 1 rfl ⟨trivial, trivial⟩ ?_
    exact m_iret hM rfl rfl (by decide) (Nat.le_of_ble_eq_true rfl) (Nat.le_of_ble_eq_true rfl) (by rw [if_pos (Or.inl hc)]; rfl) (by rw [if_pos (Or.inl hc), k_s0 h1])
  have hw : wr = -nI 1 := Classical.not_not.mp hc
  refine m_J_run hM 1 rfl ⟨trivial, trivial⟩ ?_
  refine m_J_getf hM rfl rfl (h1) (rfl) ?_
  refine m_J_run hM 1 rfl ⟨trivial, trivial⟩ ?_
  refine m_J_getf hM rfl rfl (h1) (rfl) ?_
  refine m_callV (as := [.int (nI P)]) (rest := []) (m_EX_warm E N xs) hM rfl kw_X3_30 rfl rfl (h2) ⟨_, rfl, rfl⟩ (t_at (by omega) h2 h3 h4) rfl (Nat.le_of_ble_eq_true rfl) (Nat.le_of_ble_eq_true rfl) (Nat.le_of_ble_eq_true rfl) (fun ht => ⟨ht, by simp⟩) ?_
  refine m_J_run hM 2 rfl ⟨trivial, trivial, trivial⟩ ?_
  clear hc
  refine m_J_if (fun hc => ?_) (fun hc => ?_)
  case refine_2 =>
    have hc2 := Classical.not_not.mp hc
    refine m_J_run hM 1 rfl ⟨trivial, trivial⟩ ?_
    exact m_iret hM rfl rfl (by decide) (Nat.le_of_ble_eq_true rfl) (Nat.le_of_ble_eq_true rfl) (by rw [if_pos (Or.inr hc2)]; rfl) (by rw [if_pos (Or.inr hc2), k_s0 h1])
  rw [if_neg (fun q => q.elim (fun q => q hw) hc)]
  refine m_J_run hM 1 rfl ⟨trivial, trivial⟩ ?_
  refine m_J_getf hM rfl rfl (h1) (rfl) ?_
  refine m_J_run hM 1 rfl ⟨trivial, trivial⟩ ?_
  refine m_J_getf hM rfl rfl (h1) (rfl) ?_
  refine m_callV (as := [.int (nI P)]) (rest := []) (m_EX_warm E N xs) hM rfl kw_X3_30 rfl rfl (h2) ⟨_, rfl, rfl⟩ (t_at (by omega) h2 h3 h4) rfl (Nat.le_of_ble_eq_true rfl) (Nat.le_of_ble_eq_true rfl) (Nat.le_of_ble_eq_true rfl) (fun ht => ⟨ht, by simp⟩) ?_
  refine m_J_run hM 2 rfl ⟨trivial, trivial, trivial⟩ ?_
  clear hc
  refine m_J_if (fun hc => ?_) (fun hc => ?_)
  · rw [if_pos hc]
    refine m_J_run hM 2 rfl ⟨trivial, trivial, trivial⟩ ?_
    refine m_J_getf hM rfl rfl (h1) (rfl) ?_
    refine m_J_run hM 2 rfl ⟨trivial, trivial, trivial⟩ ?_
    refine m_J_putf hM rfl rfl (h1) (rfl) ?_
    refine m_J_run hM 1 rfl ⟨trivial, trivial⟩ ?_
    exact m_iret hM rfl rfl (by decide) (Nat.le_of_ble_eq_true rfl) (Nat.le_of_ble_eq_true rfl) (rfl) (by dsimp only; rw [← k_succ P]; rfl)
  · rw [if_neg hc]
    refine m_J_run hM 1 rfl ⟨trivial, trivial⟩ ?_
    refine m_callV (as := []) (rest := []) (m_EX_warm E N xs) hM rfl kw_X3_48 rfl rfl (h1) ⟨_, rfl, rfl⟩ (t_ref hT) rfl (Nat.le_of_ble_eq_true rfl) (Nat.le_of_ble_eq_true rfl) (Nat.le_of_ble_eq_true rfl) (fun ht => ⟨ht, by simp⟩) ?_
    refine m_J_run hM 1 rfl ⟨trivial, trivial⟩ ?_
    exact m_iret hM rfl rfl (by decide) (Nat.le_of_ble_eq_true rfl) (Nat.le_of_ble_eq_true rfl) (rfl) (rfl)
theorem t_into {bk rw : Nat} {ad : Nat → Nat} {m : Nat} {q : Nat → kL} (hin : ∀ i j, i < 14 → j < 14 → ad i = ad j → i = j) (hB : k_BK h bk rw ad m q) (hT : k_TP h z tp tb R.1 R.2 n g) : m_Sp l (m_EX E N xs) E mM_X3_readInto (d + 8) 0 0 [.ref z, .ref bk] h tg (fun v H tg' => v = some (.int (k_ri g n q).2.1.2) ∧ tg' = tg ∧ k_TP H z tp tb (k_ri g n q).2.1.1 (k_ri g n q).2.1.2 n g ∧ k_BK H bk rw ad (k_ri g n q).1 (k_ri g n q).2.2 ∧ k_fr (z :: bk :: (List.range 14).map ad) h H) m_no := by
  have hM := mM_X3_readInto_ok
  refine m_Sp_of (by decide) (Nat.le_of_ble_eq_true rfl) ?_
  obtain ⟨h1, h2, h3, h4⟩ := id hT
  have hF := k_fr_r (z :: bk :: (List.range 14).map ad) h
  refine m_J_run hM 2 rfl ⟨trivial, trivial, trivial⟩ ?_
  refine m_J_putf hM rfl rfl (h1) (rfl) ?_
  replace hT := k_TP_z (p' := 0) (wr' := R.2) hT
  replace hB := k_BK_z (c := k_rd tp 0 R.2) hB h1 (by decide) (by decide)
  replace hF := k_fr_s (k := z) (c := k_rd tp 0 R.2) hF (by simp)
  show m_J _ _ _ _ _ _ _ _ _ _ _ _ (_, _, _, h.set z (k_rd tp 0 R.2))
  generalize h.set z (k_rd tp 0 R.2) = H at hT hB hF ⊢
  clear h1 h2 h3
  refine m_J_run hM 2 rfl ⟨trivial, trivial, trivial⟩ ?_
  refine m_J_putf hM rfl rfl (hT.1) (rfl) ?_
  replace hB := k_BK_z (c := k_rd tp 0 (-nI 1)) hB hT.1 (by decide) (by decide)
  replace hT := k_TP_z (p' := 0) (wr' := -nI 1) hT
  replace hF := k_fr_s (k := z) (c := k_rd tp 0 (-nI 1)) hF (by simp)
  show m_J _ _ _ _ _ _ _ _ _ _ _ _ (_, _, _, H.set z (k_rd tp 0 (-nI 1)))
  generalize H.set z (k_rd tp 0 (-nI 1)) = H at hT hB hF ⊢
  refine m_J_run hM 2 rfl ⟨trivial, trivial, trivial⟩ ?_
  refine m_J_putf hM rfl rfl (hB.1) (rfl) ?_
  replace hT := k_TP_o (c := .inr (0, [.ref rw, .int (nI 0)])) hT hB.1 (by decide) (by decide)
  replace hF := k_fr_s (k := bk) (c := .inr (0, [.ref rw, .int (nI 0)])) hF (by simp)
  replace hB := k_BK_n (n' := 0) hB (by omega)
  show m_J _ _ _ _ _ _ _ _ _ _ _ _ (_, _, _, H.set bk (.inr (0, [.ref rw, .int (nI 0)])))
  generalize H.set bk (.inr (0, [.ref rw, .int (nI 0)])) = H at hT hB hF ⊢
  refine m_J_run hM 1 rfl ⟨trivial, trivial⟩ ?_
  refine m_callV (as := []) (rest := []) (m_EX_warm E N xs) hM rfl kw_X3_27 rfl rfl (hT.1) ⟨_, rfl, rfl⟩ (t_sb (by omega) hT) rfl (Nat.le_of_ble_eq_true rfl) (Nat.le_of_ble_eq_true rfl) (Nat.le_of_ble_eq_true rfl) (fun ht => ⟨ht, by simp⟩) ?_
  replace hB := k_BK_z (c := k_rd tp (k_sb g n 0) (-nI 1)) hB hT.1 (by decide) (by decide)
  replace hT := k_TP_z (p' := k_sb g n 0) (wr' := -nI 1) hT
  replace hF := k_fr_s (k := z) (c := k_rd tp (k_sb g n 0) (-nI 1)) hF (by simp)
  generalize H.set z (k_rd tp (k_sb g n 0) (-nI 1)) = H at hT hB hF ⊢
  have hp := (k_sb_le (g := g) (n := n) (p := 0) (by omega)).2
  refine m_J_run hM 1 rfl ⟨trivial, trivial⟩ ?_
  refine m_J_getf hM rfl rfl (hT.1) (rfl) ?_
  refine m_J_run hM 1 rfl ⟨trivial, trivial⟩ ?_
  refine m_J_getf hM rfl rfl (hT.1) (rfl) ?_
  refine m_callV (as := [.int (nI (k_sb g n 0))]) (rest := []) (m_EX_warm E N xs) hM rfl kw_X3_30 rfl rfl (hT.2.1) ⟨_, rfl, rfl⟩ (t_at (by omega) hT.2.1 hT.2.2.1 hT.2.2.2) rfl (Nat.le_of_ble_eq_true rfl) (Nat.le_of_ble_eq_true rfl) (Nat.le_of_ble_eq_true rfl) (fun ht => ⟨ht, by simp⟩) ?_
  have hr0 : k_ri0 g n q = k_ril g n 14 0 (k_sb g n 0, -nI 1) q (decide (k_at g n (k_sb g n 0) ≠ -nI 1)) := rfl
  obtain ⟨b0, hb0⟩ : ∃ b, b = decide (k_at g n (k_sb g n 0) ≠ -nI 1) := ⟨_, rfl⟩
  rw [← hb0] at hr0
  refine m_J_join (S2 := (39, [some (.ref z), some (.ref bk), none], [.int (k_z b0)], H)) ?_ ?_
  · intro hJ
    refine m_J_run hM 2 rfl ⟨trivial, trivial, trivial⟩ ?_
    refine m_J_if (fun hc => ?_) (fun hc => ?_)
    · have e : b0 = false := by rw [hb0]; simp [hc]
      rw [e] at hJ
      refine m_J_run hM 1 rfl ⟨trivial, trivial⟩ ?_
      exact hJ
    · have e : b0 = true := by rw [hb0]; simpa using hc
      rw [e] at hJ
      refine m_J_run hM 2 rfl ⟨trivial, trivial, trivial⟩ ?_
      exact hJ
  clear hb0
  have loop : ∀ (f i : Nat) (H : mH) (R : kR) (Q : Nat → kL) (b : Bool), i + f = 14 → k_ri0 g n q = k_ril g n f i R Q b → R.1 ≤ n → k_TP H z tp tb R.1 R.2 n g → k_BK H bk rw ad i Q → k_fr (z :: bk :: (List.range 14).map ad) h H → m_J l (m_EX E N xs) E mM_X3_readInto (d + 8) 0 0 (fun v H tg' => v = some (.int (k_ri g n q).2.1.2) ∧ tg' = tg ∧ k_TP H z tp tb (k_ri g n q).2.1.1 (k_ri g n q).2.1.2 n g ∧ k_BK H bk rw ad (k_ri g n q).1 (k_ri g n q).2.2 ∧ k_fr (z :: bk :: (List.range 14).map ad) h H) m_no tg 0 0 (40, [some (.ref z), some (.ref bk), some (.int (k_z b))], [], H) := by
    intro f
    induction f with
    | zero =>
      intro i H R Q b hi hr hp hT hB hF
      rw [k_ril] at hr
      have hn := hT.2.2.2
      cases b with
      | false =>
        refine m_J_run hM 2 rfl ⟨trivial, trivial, trivial⟩ ?_
        refine m_J_if (fun _ => ?_) (fun hc => absurd (rfl) hc)
        refine m_J_run hM 2 rfl ⟨trivial, trivial, trivial⟩ ?_
        refine m_J_if (fun _ => ?_) (fun hc => absurd (rfl) hc)
        refine m_J_run hM 1 rfl ⟨trivial, trivial⟩ ?_
        refine m_J_getf hM rfl rfl (hT.1) (rfl) ?_
        refine m_J_iret hM rfl rfl rfl (Nat.le_refl _) (Nat.le_refl _) ⟨?_, rfl, ?_, ?_, hF⟩
        · unfold k_ri; rw [hr]; rfl
        · unfold k_ri; rw [hr]; exact hT
        · unfold k_ri; rw [hr]; exact hB
      | true =>
        refine m_J_run hM 2 rfl ⟨trivial, trivial, trivial⟩ ?_
        refine m_J_if (fun hc => absurd hc (by decide)) (fun _ => ?_)
        refine m_J_run hM 1 rfl ⟨trivial, trivial⟩ ?_
        refine m_J_getf hM rfl rfl (hB.1) (rfl) ?_
        refine m_J_run hM 2 rfl ⟨trivial, trivial, trivial⟩ ?_
        refine m_J_if (fun _ => ?_) (fun hc => absurd (nI_le (by omega) (by omega)) hc)
        refine m_J_run hM 2 rfl ⟨trivial, trivial, trivial⟩ ?_
        refine m_J_if (fun hc => absurd hc (by decide)) (fun _ => ?_)
        refine m_J_run hM 1 rfl ⟨trivial, trivial⟩ ?_
        refine m_callV (as := []) (rest := []) (m_EX_warm E N xs) hM rfl kw_X3_27 rfl rfl (hT.1) ⟨_, rfl, rfl⟩ (t_sb hp hT) rfl (Nat.le_of_ble_eq_true rfl) (Nat.le_of_ble_eq_true rfl) (Nat.le_of_ble_eq_true rfl) (fun ht => ⟨ht, by simp⟩) ?_
        replace hB := k_BK_z (c := k_rd tp (k_sb g n R.1) R.2) hB hT.1 (by decide) (by decide)
        replace hT := k_TP_z (p' := k_sb g n R.1) (wr' := R.2) hT
        replace hF := k_fr_s (k := z) (c := k_rd tp (k_sb g n R.1) R.2) hF (by simp)
        generalize H.set z (k_rd tp (k_sb g n R.1) R.2) = H at hT hB hF ⊢
        refine m_J_run hM 1 rfl ⟨trivial, trivial⟩ ?_
        refine m_callV (as := []) (rest := []) (m_EX_warm E N xs) hM rfl kw_X3_48 rfl rfl (hT.1) ⟨_, rfl, rfl⟩ (t_ref hT) rfl (Nat.le_of_ble_eq_true rfl) (Nat.le_of_ble_eq_true rfl) (Nat.le_of_ble_eq_true rfl) (fun ht => ⟨ht, by simp⟩) ?_
        replace hB := k_BK_z (c := k_rd tp (k_sb g n R.1) (k_rf R.2 (k_sb g n R.1))) hB hT.1 (by decide) (by decide)
        replace hT := k_TP_z (p' := k_sb g n R.1) (wr' := k_rf R.2 (k_sb g n R.1)) hT
        replace hF := k_fr_s (k := z) (c := k_rd tp (k_sb g n R.1) (k_rf R.2 (k_sb g n R.1))) hF (by simp)
        generalize H.set z (k_rd tp (k_sb g n R.1) (k_rf R.2 (k_sb g n R.1))) = H at hT hB hF ⊢
        refine m_J_run hM 1 rfl ⟨trivial, trivial⟩ ?_
        refine m_J_getf hM rfl rfl (hT.1) (rfl) ?_
        refine m_J_iret hM rfl rfl rfl (Nat.le_refl _) (Nat.le_refl _) ⟨?_, rfl, ?_, ?_, hF⟩
        · unfold k_ri; rw [hr]; rfl
        · unfold k_ri; rw [hr]; exact hT
        · unfold k_ri; rw [hr]; exact hB
    | succ f ih =>
      intro i H R Q b hi hr hp hT hB hF
      rw [k_ril] at hr
      have hn := hT.2.2.2
      cases b with
      | false =>
        rw [if_neg (by decide)] at hr
        refine m_J_run hM 2 rfl ⟨trivial, trivial, trivial⟩ ?_
        refine m_J_if (fun _ => ?_) (fun hc => absurd (rfl) hc)
        refine m_J_run hM 2 rfl ⟨trivial, trivial, trivial⟩ ?_
        refine m_J_if (fun _ => ?_) (fun hc => absurd (rfl) hc)
        refine m_J_run hM 1 rfl ⟨trivial, trivial⟩ ?_
        refine m_J_getf hM rfl rfl (hT.1) (rfl) ?_
        refine m_J_iret hM rfl rfl rfl (Nat.le_refl _) (Nat.le_refl _) ⟨?_, rfl, ?_, ?_, hF⟩
        · unfold k_ri; rw [hr]; rfl
        · unfold k_ri; rw [hr]; exact hT
        · unfold k_ri; rw [hr]; exact hB
      | true =>
        rw [if_pos rfl] at hr
        refine m_J_run hM 2 rfl ⟨trivial, trivial, trivial⟩ ?_
        refine m_J_if (fun hc => absurd hc (by decide)) (fun _ => ?_)
        refine m_J_run hM 1 rfl ⟨trivial, trivial⟩ ?_
        refine m_J_getf hM rfl rfl (hB.1) (rfl) ?_
        refine m_J_run hM 2 rfl ⟨trivial, trivial, trivial⟩ ?_
        refine m_J_if (fun hc => absurd hc (nI_ge (by omega) (by omega))) (fun _ => ?_)
        refine m_J_run hM 2 rfl ⟨trivial, trivial, trivial⟩ ?_
        refine m_J_getf hM rfl rfl (hB.1) (rfl) ?_
        refine m_J_run hM 1 rfl ⟨trivial, trivial⟩ ?_
        refine m_J_getf hM rfl rfl (hB.1) (rfl) ?_
        refine m_aaldN hM rfl (hB.2.1) rfl (if_pos (show i < 14 by omega)) (by omega) (by omega) ?_
        have hi14 : i < 14 := by omega
        refine m_J_callV (as := [.ref (ad i)]) (rest := []) (m_EX_warm E N xs) hM rfl kw_X3_40 rfl rfl rfl hT.1 ⟨_, rfl, rfl⟩ (Nat.le_of_ble_eq_true rfl) (Nat.le_of_ble_eq_true rfl) (Nat.le_of_ble_eq_true rfl) (t_line (R := R) ⟨hT, hB.2.2.1 i hi14, hp, hB.2.2.2.2 i hi14⟩) (fun v' h' tg' hpp => ?_) (fun nm h' hp => hp.elim)
        obtain ⟨rfl, rfl, hp1, hp2⟩ := hpp
        refine ⟨fun ht => ⟨ht, by rw [hp2.1]; exact Nat.le_refl _⟩, ?_⟩
        replace hF := k_fr_t hF (k_fr_w hp2 (B := z :: bk :: (List.range 14).map ad) (by intro k hk; simp only [List.mem_cons, List.not_mem_nil, or_false] at hk; simp only [List.mem_cons, List.mem_map, List.mem_range]; exact hk.elim Or.inl (fun e => Or.inr (Or.inr ⟨i, hi14, e.symm⟩))))
        replace hB := k_BK_fr hB hin hi14 hT.1 hp2 hp1.2.1 hp1.2.2.2
        have hp3 := hp1.2.2.1
        replace hT := hp1.1
        clear hp1 hp2
        generalize hX : k_rline g n (Q i) R = X at *
        refine m_J_run hM 2 rfl ⟨trivial, trivial, trivial⟩ ?_
        refine m_J_getf hM rfl rfl (hB.1) (rfl) ?_
        refine m_J_run hM 2 rfl ⟨trivial, trivial, trivial⟩ ?_
        refine m_J_putf hM rfl rfl (hB.1) (rfl) ?_
        replace hT := k_TP_o (c := .inr (0, [.ref rw, .int (nI (i + 1))])) hT hB.1 (by decide) (by decide)
        replace hF := k_fr_s (k := bk) (c := .inr (0, [.ref rw, .int (nI (i + 1))])) hF (by simp)
        replace hB := k_BK_n (n' := i + 1) hB (by omega)
        refine m_J_eqH (H' := h'.set bk (.inr (0, [.ref rw, .int (nI (i + 1))]))) (by rw [k_succ i]; rfl) ?_
        generalize h'.set bk (.inr (0, [.ref rw, .int (nI (i + 1))])) = H at hT hB hF ⊢
        refine m_J_run hM 1 rfl ⟨trivial, trivial⟩ ?_
        refine m_callV (as := []) (rest := []) (m_EX_warm E N xs) hM rfl kw_X3_44 rfl rfl (hT.1) ⟨_, rfl, rfl⟩ (t_semi (R := X.2) hp3 hT) rfl (Nat.le_of_ble_eq_true rfl) (Nat.le_of_ble_eq_true rfl) (Nat.le_of_ble_eq_true rfl) (fun ht => ⟨ht, by simp⟩) ?_
        replace hB := k_BK_z (c := k_rd tp (k_rs g n X.2).2.1 (k_rs g n X.2).2.2) hB hT.1 (by decide) (by decide)
        replace hT := k_TP_z (p' := (k_rs g n X.2).2.1) (wr' := (k_rs g n X.2).2.2) hT
        replace hF := k_fr_s (k := z) (c := k_rd tp (k_rs g n X.2).2.1 (k_rs g n X.2).2.2) hF (by simp)
        generalize H.set z (k_rd tp (k_rs g n X.2).2.1 (k_rs g n X.2).2.2) = H at hT hB hF ⊢
        refine m_J_run hM 2 rfl ⟨trivial, trivial, trivial⟩ ?_
        exact ih (i + 1) H _ _ _ (by omega) hr (k_rs_le hp3) hT hB hF
  refine m_J_run hM 1 rfl ⟨trivial, trivial⟩ ?_
  exact loop 14 0 H (k_sb g n 0, -nI 1) q b0 rfl hr0 hp hT hB hF
end
