/-! CONSTRUCTORS: Book, Land, Search -/
theorem m_J_k {l : Launch} {EX : State → Prop} {E : mE} {M : mM} {d mc ms : Nat} {PR : Option Value → mH → Bool → Prop} {PX : String → mH → Prop} {tg : Bool} {kc ks kc' ks' : Nat} {S : mS} (h1 : kc = kc') (h2 : ks = ks') (hJ : m_J l EX E M d mc ms PR PX tg kc' ks' S) : m_J l EX E M d mc ms PR PX tg kc ks S := by subst h1; subst h2; exact hJ
theorem k_lok0 : k_lok k_q0 := by unfold k_lok; decide
section
variable {l : Launch} {E : mE} {N : Nat} {xs : Nat → Int32} {d : Nat} {h : mH} {z : Nat}
theorem c_book {v0 v1 : Value} (hz : h[z]? = some (.inr (0, [v0, v1]))) (hl : h.length < 900000) : m_Sp l (m_EX E N xs) E mM_X0_init (d + 1) 15 112 [.ref z] h true (fun v H tg' => v = none ∧ tg' = true ∧ H.length = h.length + 15 ∧ k_ex z h H ∧ k_BK H z h.length (fun i => h.length + 1 + i) 0 (fun _ => k_q0)) m_no := by
  have hM := mM_X0_init_ok
  refine m_Sp_of (by decide) (Nat.le_of_ble_eq_true rfl) ?_
  have hzl := k_lt hz
  refine m_J_run hM 1 rfl ⟨trivial, trivial⟩ ?_
  refine m_J_obj hM rfl kw_X0_3 (Nat.le_of_ble_eq_true rfl) ?_
  refine m_J_run hM 2 rfl ⟨trivial, trivial, trivial⟩ ?_
  refine m_J_anew (ti := 4) (K := 14) hM rfl kl_X0_9 rfl (by simp) (by decide) (by decide) (by omega) (by omega) (by omega) (by omega) ?_
  refine m_J_putc hM rfl rfl (k_ol _ hz) (rfl) (by decide) ?_
  refine m_J_run hM 2 rfl ⟨trivial, trivial, trivial⟩ ?_
  have loop : ∀ (n i : Nat) (H : mH), i + n = 14 → H.length = h.length + 1 + i → k_ex z h H → H[z]? = some (.inr (0, [.ref h.length, v1])) → H[h.length]? = some (k_ra 4 14 (fun j => if j < i then some (h.length + 1 + j) else none)) → (∀ j, j < i → H[h.length + 1 + j]? = some (k_ln k_q0)) → m_J l (m_EX E N xs) E mM_X0_init (d + 1) 15 112 (fun v H tg' => v = none ∧ tg' = true ∧ H.length = h.length + 15 ∧ k_ex z h H ∧ k_BK H z h.length (fun i => h.length + 1 + i) 0 (fun _ => k_q0)) m_no true (1 + i) (14 + 7 * i) (15, [some (.ref z), some (.int (nI i))], [], H) := by
    intro n
    induction n with
    | zero =>
      intro i H hi h1 h2 h3 h4 h5
      have e : i = 14 := by omega
      subst e
      refine m_J_run hM 3 rfl ⟨trivial, trivial, trivial, trivial⟩ ?_
      refine m_J_if (fun _ => ?_) (fun hc => absurd (nI_le (Nat.le_refl _) (by omega)) hc)
      refine m_J_run hM 2 rfl ⟨trivial, trivial, trivial⟩ ?_
      refine m_J_putf hM rfl rfl (h3) (rfl) ?_
      refine m_J_vret hM rfl rfl (by omega) (by omega) ⟨rfl, rfl, by rw [List.length_set]; omega, k_ex_s h2 (Or.inl rfl), k_ss h3, k_sn (show h.length ≠ z by omega) h4, fun i hi => k_sn (show h.length + 1 + i ≠ z by omega) (h5 i hi), by omega, fun i _ => k_lok0⟩
    | succ n ih =>
      intro i H hi h1 h2 h3 h4 h5
      refine m_J_run hM 3 rfl ⟨trivial, trivial, trivial, trivial⟩ ?_
      refine m_J_if (fun hc => absurd hc (nI_ge (by omega) (by omega))) (fun _ => ?_)
      refine m_J_run hM 1 rfl ⟨trivial, trivial⟩ ?_
      refine m_J_getf hM rfl rfl (h3) (rfl) ?_
      refine m_J_run hM 1 rfl ⟨trivial, trivial⟩ ?_
      refine m_newC (ci := 2) (K := 7) (fs := [.int (nI 0), .int (nI 0), .int (nI 0), .int (nI 0), .int (nI 0), .int (nI 0), .int (nI 0)]) hM rfl kn_X0_9 rfl rfl rfl (by omega) (by omega) (by omega) ?_
      refine m_J_run hM 1 rfl ⟨trivial, trivial⟩ ?_
      refine m_J_callI true (as := []) (rest := [.ref H.length, .int (nI i), .ref h.length]) (m_EX_warm E N xs) hM rfl kw_X0_17 rfl rfl rfl (Nat.le_of_ble_eq_true rfl) (by first | exact Nat.le_of_ble_eq_true rfl | omega) (by first | exact Nat.le_of_ble_eq_true rfl | omega) (c_line) (fun v9 h9 tg9 hp9 => ?_)
      obtain ⟨rfl, rfl, rfl⟩ := hp9
      refine ⟨fun _ => ⟨rfl, Nat.le_refl _⟩, ?_⟩
      refine m_aastN (ci := 2) hM rfl (k_ol _ h4) (k_nw H _) (Or.inl ⟨rfl, rfl⟩) (by omega) (by omega) ?_
      refine m_J_run hM 2 rfl ⟨trivial, trivial, trivial⟩ ?_
      rw [← k_succ i]
      refine m_J_k (by omega) (by omega) (ih (i + 1) _ (by omega) (by simp; omega) (k_ex_s (k_ex_a _ h2) (Or.inr (Nat.le_refl _))) (k_sn (by omega) (k_ol _ h3)) ?_ ?_)
      · rw [k_ss (k_ol _ h4)]
        refine congrArg (fun f => some (k_ra 4 14 f)) (funext fun j => ?_)
        by_cases e : j = i
        · subst e
          simp [va_up, h1]
        · by_cases e2 : j < i
          · simp [va_up, e, e2, Nat.lt_succ_of_lt e2]
          · simp [va_up, e, e2, show ¬ j < i + 1 by omega]
      · intro j hj
        refine k_sn (show h.length + 1 + j ≠ h.length by omega) ?_
        by_cases e : j = i
        · subst e
          rw [← h1]
          exact k_nw H _
        · exact k_ol _ (h5 j (by omega))
  exact loop 14 0 _ rfl (by simp) (k_ex_s (k_ex_a _ (k_ex_r _ _)) (Or.inl rfl)) (k_ss (k_ol _ hz)) (by rw [k_sn (show h.length ≠ z by omega) (k_nw h _)]; simp) (fun j hj => absurd hj (by omega))
/-- a new land: uses at h.length, sets, soils, rows -/
def k_w0 (n : Nat) : Nat → Nat := fun i => n + 4 + i
theorem c_land {v0 v1 v2 : Value} (hz : h[z]? = some (.inr (1, [v0, v1, v2]))) (hl : h.length < 800000) : m_Sp l (m_EX E N xs) E mM_X1_init (d + 2) 10 432 [.ref z] h true (fun v H tg' => v = none ∧ tg' = true ∧ H.length = h.length + 10 ∧ k_ex z h H ∧ k_LD H z h.length (h.length + 1) (h.length + 2) (h.length + 3) (k_w0 h.length) k_u0 (fun _ => nI 0)) m_no := by
  have hM := mM_X1_init_ok
  refine m_Sp_of (by decide) (Nat.le_of_ble_eq_true rfl) ?_
  have hzl := k_lt hz
  refine m_J_run hM 1 rfl ⟨trivial, trivial⟩ ?_
  refine m_J_obj hM rfl kw_X1_3 (Nat.le_of_ble_eq_true rfl) ?_
  refine m_J_run hM 1 rfl ⟨trivial, trivial⟩ ?_
  refine m_newC (ci := 6) (K := 1) (fs := [.null]) hM rfl kn_X1_9 rfl rfl rfl (by omega) (by omega) (by omega) ?_
  refine m_J_run hM 1 rfl ⟨trivial, trivial⟩ ?_
  refine m_J_callI false (as := []) (rest := [.ref h.length, .ref z]) (m_EX_warm E N xs) hM rfl kw_X1_11 rfl rfl rfl (Nat.le_of_ble_eq_true rfl) (by first | exact Nat.le_of_ble_eq_true rfl | omega) (by first | exact Nat.le_of_ble_eq_true rfl | omega) (c_uses (k_nw h _) (by simp; omega)) (fun v9 h9 tg9 hp9 => ?_)
  obtain ⟨rfl, rfl, p1, p2, p3, p4⟩ := hp9
  simp only [List.length_append, List.length_cons, List.length_nil] at p1 p3 p4
  refine ⟨fun _ => ⟨rfl, by simp; omega⟩, ?_⟩
  have x1 : k_ex z h h9 := k_ex_c (k_ex_a [.inr (6, [.null])] (k_ex_r z h)) p2 (Or.inr (Nat.le_refl _))
  have hz1 := k_oe p2 (k_ol _ hz) (show z ≠ h.length by omega)
  refine m_J_putc hM rfl rfl (hz1) (rfl) (by decide) ?_
  refine m_J_run hM 2 rfl ⟨trivial, trivial, trivial⟩ ?_
  refine m_newI (K := 60) hM rfl (by omega) (by simp; omega) (by omega) (by omega) ?_
  rw [List.length_set]
  refine m_J_putc hM rfl rfl (k_ol _ (k_ss hz1)) (rfl) (by decide) ?_
  refine m_J_run hM 3 rfl ⟨trivial, trivial, trivial, trivial⟩ ?_
  refine m_J_mna (K1 := 6) (K2 := 60) hM rfl kl_X1_22 kc_long (by decide) (by decide) (by decide) (by decide) (by decide) (by decide) (by simp; omega) (by omega) (by omega) ?_
  have e3 : ((List.set h9 z (.inr (1, [v0, v1, v2].set 0 (.ref h.length))) ++ [k_ia 60 (fun _ => nI 0)]).set z (.inr (1, ([v0, v1, v2].set 0 (.ref h.length)).set 1 (.ref h9.length)))).length = h.length + 3 := by simp; omega
  rw [e3, p1]
  refine m_J_putc hM rfl rfl (k_ol _ (k_ss (k_ol _ (k_ss hz1)))) (rfl) (by decide) ?_
  refine m_J_run hM 2 rfl ⟨trivial, trivial, trivial⟩ ?_
  have f0 : ∀ (c1 c2 c3 : va_E) (x y : List va_E), ((((List.set h9 z c1 ++ x).set z c2) ++ y).set z c3)[z]? = some c3 := fun c1 c2 c3 x y => k_ss (k_ol y (k_ss (k_ol x (k_ss hz1))))
  have fo : ∀ (c1 c2 c3 : va_E) (x y : List va_E) (k : Nat) (c : va_E), k ≠ z → h9[k]? = some c → ((((List.set h9 z c1 ++ x).set z c2) ++ y).set z c3)[k]? = some c := fun c1 c2 c3 x y k c hk h0 => k_sn hk (k_ol y (k_sn hk (k_ol x (k_sn hk h0))))
  have fx : ∀ (c1 c2 c3 c : va_E) (y : List va_E), ((((List.set h9 z c1 ++ [c]).set z c2) ++ y).set z c3)[h.length + 2]? = some c := by
    intro c1 c2 c3 c y
    refine k_sn (show h.length + 2 ≠ z by omega) (k_ol y (k_sn (show h.length + 2 ≠ z by omega) ?_))
    have e9 : (List.set h9 z c1).length = h.length + 2 := by rw [List.length_set]; omega
    rw [← e9]
    exact k_nw _ _
  have fy : ∀ (c1 c2 c3 c : va_E) (y : List va_E) (j : Nat) (c9 : va_E), y[j]? = some c9 → ((((List.set h9 z c1 ++ [c]).set z c2) ++ y).set z c3)[h.length + 3 + j]? = some c9 := by
    intro c1 c2 c3 c y j c9 hj
    refine k_sn (show h.length + 3 + j ≠ z by omega) ?_
    have e9 : ((List.set h9 z c1 ++ [c]).set z c2).length = h.length + 3 := by rw [List.length_set, List.length_append, List.length_set]; simp; omega
    rw [List.getElem?_append_right (by omega), e9, Nat.add_sub_cancel_left]
    exact hj
  have inner : ∀ (i : Nat) (hi : i < 6) (H : mH) (h1 : H[z]? = some (.inr (1, [.ref h.length, .ref (h.length + 2), .ref (h.length + 3)]))) (h2 : H[h.length + 3]? = some (k_ra 6 6 (k_arows (k_w0 h.length)))) (PRx : Option Value → mH → Bool → Prop), ∀ (n sq : Nat) (K : mH), sq + n = 60 → K[z]? = some (.inr (1, [.ref h.length, .ref (h.length + 2), .ref (h.length + 3)])) → K[h.length + 3]? = some (k_ra 6 6 (k_arows (k_w0 h.length))) → K[k_w0 h.length i]? = some (k_la 60 (k_upto (fun s => k_ar s i) (fun _ => Int64.ofNat 0) sq)) → K.set (k_w0 h.length i) (k_la 60 (k_arow i)) = H → m_J l (m_EX E N xs) E mM_X1_init (d + 2) 10 432 PRx m_no true 10 432 (69, [some (.ref z), some (.int (nI i)), some (.int (nI 60))], [], H) → m_J l (m_EX E N xs) E mM_X1_init (d + 2) 10 432 PRx m_no true 10 432 (44, [some (.ref z), some (.int (nI i)), some (.int (nI sq))], [], K) := by
    intro i hi H h1 h2 PRx n
    induction n with
    | zero =>
      intro sq K hsq k1 k2 k3 k4 hJ
      have e : sq = 60 := by omega
      subst e
      refine m_J_run hM 3 rfl ⟨trivial, trivial, trivial, trivial⟩ ?_
      refine m_J_if (fun _ => ?_) (fun hc => absurd (nI_le (Nat.le_refl _) (by omega)) hc)
      rw [← k4, show k_arow i = k_upto (fun s => k_ar s i) (fun _ => Int64.ofNat 0) 60 from rfl, k_s0 k3] at hJ
      exact hJ
    | succ n ih =>
      intro sq K hsq k1 k2 k3 k4 hJ
      refine m_J_run hM 3 rfl ⟨trivial, trivial, trivial, trivial⟩ ?_
      refine m_J_if (fun hc => absurd hc (nI_ge (by omega) (by omega))) (fun _ => ?_)
      refine m_J_run hM 1 rfl ⟨trivial, trivial⟩ ?_
      refine m_J_getf hM rfl rfl (k1) (rfl) ?_
      refine m_J_run hM 1 rfl ⟨trivial, trivial⟩ ?_
      refine m_aaldN hM rfl (k2) rfl (if_pos hi) (by omega) (by omega) ?_
      refine m_J_run hM 3 rfl ⟨trivial, trivial, trivial, trivial⟩ ?_
      refine m_callS (as := [.int (nI sq), .int (nI i)]) (rest := [.int (nI sq), .ref (k_w0 h.length i)]) (m_EX_warm E N xs) hM rfl kw_X1_27 rfl (s_around sq i (by omega) (by omega)) rfl (Nat.le_of_ble_eq_true rfl) (Nat.le_of_ble_eq_true rfl) (Nat.le_of_ble_eq_true rfl) (fun ht => ⟨ht, Nat.le_refl _⟩) ?_
      refine m_lastN hM rfl (k3) (by omega) (by omega) ?_
      refine m_J_run hM 2 rfl ⟨trivial, trivial, trivial⟩ ?_
      rw [← k_succ sq, k_upto_L (fun s => k_ar s i)]
      exact ih (sq + 1) _ (by omega) (k_sn (k_ne k1 k3) k1) (k_sn (k_neT k2 k3 (by simp)) k2) (k_ss k3) (by rw [k_s2]; exact k4) hJ
  have outer : ∀ (n i : Nat) (H : mH), i + n = 6 → H.length = h.length + 10 → k_ex z h H → H[z]? = some (.inr (1, [.ref h.length, .ref (h.length + 2), .ref (h.length + 3)])) → H[h.length]? = some (k_uses (h.length + 1)) → H[h.length + 1]? = some (k_la 5 k_u0) → H[h.length + 2]? = some (k_ia 60 (fun _ => nI 0)) → H[h.length + 3]? = some (k_ra 6 6 (k_arows (k_w0 h.length))) → (∀ j, j < 6 → H[k_w0 h.length j]? = some (k_la 60 (if j < i then k_arow j else fun _ => Int64.ofNat 0))) → ∀ v2 : Option Value, m_J l (m_EX E N xs) E mM_X1_init (d + 2) 10 432 (fun v H tg' => v = none ∧ tg' = true ∧ H.length = h.length + 10 ∧ k_ex z h H ∧ k_LD H z h.length (h.length + 1) (h.length + 2) (h.length + 3) (k_w0 h.length) k_u0 (fun _ => nI 0)) m_no true 10 432 (37, [some (.ref z), some (.int (nI i)), v2], [], H) := by
    intro n
    induction n with
    | zero =>
      intro i H hi q1 q2 q3 q4 q5 q6 q7 q8 v2
      have e : i = 6 := by omega
      subst e
      refine m_J_run hM 3 rfl ⟨trivial, trivial, trivial, trivial⟩ ?_
      refine m_J_if (fun _ => ?_) (fun hc => absurd ((nI_lt (show 5 < 6 by omega) (by omega))) hc)
      refine m_J_vret hM rfl rfl (by omega) (by omega) ⟨rfl, rfl, q1, q2, q3, q4, q5, q6, q7, fun i hi => ?_⟩
      rw [q8 i hi, if_pos hi]
    | succ n ih =>
      intro i H hi q1 q2 q3 q4 q5 q6 q7 q8 v2
      refine m_J_run hM 3 rfl ⟨trivial, trivial, trivial, trivial⟩ ?_
      refine m_J_if (fun hc => absurd hc ((fun q => absurd (nI_le (show i ≤ 5 by omega) (by omega)) (Int32.not_le.mpr q)))) (fun _ => ?_)
      refine m_J_run hM 2 rfl ⟨trivial, trivial, trivial⟩ ?_
      have hw : H[k_w0 h.length i]? = some (k_la 60 (fun _ => Int64.ofNat 0)) := by rw [q8 i (by omega), if_neg (by omega)]
      have hwl : h.length ≤ k_w0 h.length i := by unfold k_w0; omega
      have hwz : ∀ k, k < h.length + 4 → k ≠ k_w0 h.length i := fun k hk => by unfold k_w0; omega
      refine inner i (by omega) (H.set (k_w0 h.length i) (k_la 60 (k_arow i))) (k_sn (hwz _ (by omega)) q3) (k_sn (hwz _ (by omega)) q7) _ 60 0 H rfl q3 q7 (by rw [k_upto_0]; exact hw) rfl ?_
      refine m_J_run hM 2 rfl ⟨trivial, trivial, trivial⟩ ?_
      rw [← k_succ i]
      refine ih (i + 1) _ (by omega) (by rw [List.length_set]; exact q1) (k_ex_s q2 (Or.inr hwl)) (k_sn (hwz _ (by omega)) q3) (k_sn (hwz _ (by omega)) q4) (k_sn (hwz _ (by omega)) q5) (k_sn (hwz _ (by omega)) q6) (k_sn (hwz _ (by omega)) q7) ?_ _
      intro j hj
      by_cases e : j = i
      · subst e
        rw [k_ss hw, if_pos (by omega)]
      · rw [k_sn (show k_w0 h.length j ≠ k_w0 h.length i by unfold k_w0; omega) (q8 j hj)]
        by_cases e2 : j < i
        · rw [if_pos e2, if_pos (by omega)]
        · rw [if_neg e2, if_neg (by omega)]
  refine m_J_k rfl rfl (outer 6 0 _ rfl ?_ ?_ (f0 _ _ _ _ _) (fo _ _ _ _ _ _ _ (by omega) p3) (fo _ _ _ _ _ _ _ (by omega) p4) (fx _ _ _ _ _) (fy _ _ _ _ _ 0 _ ?_) (fun j hj => ?_) none)
  · simp; omega
  · exact k_ex_s (k_ex_a _ (k_ex_s (k_ex_a _ (k_ex_s x1 (Or.inl rfl))) (Or.inl rfl))) (Or.inl rfl)
  · simp only [List.getElem?_cons_zero, Option.some.injEq]
    refine congrArg (k_ra 6 6) (funext fun j => ?_)
    unfold k_arows k_w0
    by_cases e : j < 6
    · rw [if_pos e]
    · rw [if_neg e]
  · rw [if_neg (by omega), show k_w0 h.length j = h.length + 3 + (j + 1) by unfold k_w0; omega]
    refine fy _ _ _ _ _ (j + 1) _ ?_
    rw [List.getElem?_cons_succ, List.getElem?_replicate, if_pos hj]
    rfl
end
