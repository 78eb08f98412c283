/-! USES: for each use the set of its squares -/
abbrev k_uses (b : Nat) : va_E := .inr (6, [.ref b])
def k_lift (f : Nat → Int64) (x : Int64) : Nat → Int64 := k_upto (fun i => f i &&& (x ^^^ (-1))) f 5
def k_put (f : Nat → Int64) (x : Int64) (u : Nat) : Nat → Int64 := vp_updL (k_lift f x) u (k_lift f x u ||| x)
/-- the first use whose set has the square -/
def k_uo (f : Nat → Int64) (s : Nat) : Nat → Nat → Int32
  | 0, _ => -nI 1
  | n + 1, i => if k_has (f i) s then nI i else k_uo f s n (i + 1)
def k_same (f g : Nat → Int64) : Nat → Int32
  | 0 => nI 0
  | n + 1 => k_same f g n + k_pc (f n &&& g n)
def k_like (f : Nat → Int64) (s : Nat) : Nat → Int32
  | 0 => nI 0
  | n + 1 => if k_has (f n) s then k_like f s n + k_pc (k_bes (k_only s) &&& f n) else k_like f s n
section
variable {l : Launch} {E : mE} {N : Nat} {xs : Nat → Int32} {d : Nat} {tg : Bool} {h : mH} {a b : Nat} {f : Nat → Int64}
theorem u_of {u : Nat} (hu : u < 5) (hU : h[a]? = some (k_uses b)) (hA : h[b]? = some (k_la 5 f)) : m_Dt l (m_EX E N xs) E mM_X7_of d 0 0 [.ref a, .int (nI u)] h tg (some (.long (f u))) h tg := by
  have hM := mM_X7_of_ok
  refine m_Sp_of (by decide) (Nat.le_of_ble_eq_true rfl) ?_
  refine m_J_run hM 1 rfl ⟨trivial, trivial⟩ ?_
  refine m_J_getf hM rfl rfl (hU) (rfl) ?_
  refine m_J_run hM 1 rfl ⟨trivial, trivial⟩ ?_
  refine m_laldN hM rfl (hA) (by omega) (by omega) ?_
  exact m_lret hM rfl rfl (Nat.le_of_ble_eq_true rfl) (Nat.le_of_ble_eq_true rfl) (rfl) (rfl)
theorem u_useOf {s : Nat} (hU : h[a]? = some (k_uses b)) (hA : h[b]? = some (k_la 5 f)) : m_Dt l (m_EX E N xs) E mM_X7_useOf (d + 2) 0 0 [.ref a, .int (nI s)] h tg (some (.int (k_uo f s 5 0))) h tg := by
  have hM := mM_X7_useOf_ok
  refine m_Sp_of (by decide) (Nat.le_of_ble_eq_true rfl) ?_
  refine m_J_run hM 2 rfl ⟨trivial, trivial, trivial⟩ ?_
  have loop : ∀ n i : Nat, i + n = 5 → m_J l (m_EX E N xs) E mM_X7_useOf (d + 2) 0 0 (m_K (some (.int (k_uo f s n i))) h tg) m_no tg 0 0 (2, [some (.ref a), some (.int (nI s)), some (.int (nI i))], [], h) := by
    intro n
    induction n with
    | zero =>
      intro i hi
      have e : i = 5 := by omega
      subst e
      refine m_J_run hM 3 rfl ⟨trivial, trivial, trivial, trivial⟩ ?_
      refine m_J_if (fun _ => ?_) (fun hc => absurd (by decide) hc)
      refine m_J_run hM 1 rfl ⟨trivial, trivial⟩ ?_
      exact m_iret hM rfl rfl rfl (Nat.le_of_ble_eq_true rfl) (Nat.le_of_ble_eq_true rfl) (rfl) (rfl)
    | succ n ih =>
      intro i hi
      refine m_J_run hM 3 rfl ⟨trivial, trivial, trivial, trivial⟩ ?_
      refine m_J_if (fun hc => absurd hc (nI_ge (by omega) (by omega))) (fun _ => ?_)
      refine m_J_run hM 1 rfl ⟨trivial, trivial⟩ ?_
      refine m_J_getf hM rfl rfl (hU) (rfl) ?_
      refine m_J_run hM 1 rfl ⟨trivial, trivial⟩ ?_
      refine m_laldN hM rfl (hA) (by omega) (by omega) ?_
      refine m_J_run hM 1 rfl ⟨trivial, trivial⟩ ?_
      refine m_callS (as := [.long (f i), .int (nI s)]) (rest := []) (m_EX_warm E N xs) hM rfl kw_X7_19 rfl (s_has (f i) s) rfl (Nat.le_of_ble_eq_true rfl) (Nat.le_of_ble_eq_true rfl) (Nat.le_of_ble_eq_true rfl) (fun ht => ⟨ht, Nat.le_refl _⟩) ?_
      refine m_J_run hM 1 rfl ⟨trivial, trivial⟩ ?_
      refine m_J_if (fun hc => ?_) (fun hc => ?_)
      · have hc2 : ¬ k_has (f i) s = true := by intro q; rw [q] at hc; revert hc; decide
        rw [k_uo, if_neg hc2]
        refine m_J_run hM 2 rfl ⟨trivial, trivial, trivial⟩ ?_
        refine m_eqS (ih (i + 1) (by omega)) ?_
        rw [k_succ i]
        rfl
      · have hc2 : k_has (f i) s = true := by cases q : k_has (f i) s with
          | true => rfl
          | false => rw [q] at hc; exact absurd rfl hc
        rw [k_uo, if_pos hc2]
        refine m_J_run hM 1 rfl ⟨trivial, trivial⟩ ?_
        exact m_iret hM rfl rfl rfl (Nat.le_of_ble_eq_true rfl) (Nat.le_of_ble_eq_true rfl) (rfl) (rfl)
  exact loop 5 0 rfl
theorem u_lift {x : Int64} (hU : h[a]? = some (k_uses b)) (hA : h[b]? = some (k_la 5 f)) : m_Dt l (m_EX E N xs) E mM_X7_lift d 0 0 [.ref a, .long x] h tg none (h.set b (k_la 5 (k_lift f x))) tg := by
  have hM := mM_X7_lift_ok
  refine m_Sp_of (by decide) (Nat.le_of_ble_eq_true rfl) ?_
  refine m_J_run hM 2 rfl ⟨trivial, trivial, trivial⟩ ?_
  have hab := k_ne hU hA
  have loop : ∀ n i : Nat, i + n = 5 → m_J l (m_EX E N xs) E mM_X7_lift d 0 0 (m_K none (h.set b (k_la 5 (k_lift f x))) tg) m_no tg 0 0 (2, [some (.ref a), some (.long x), none, some (.int (nI i))], [], h.set b (k_la 5 (k_upto (fun i => f i &&& (x ^^^ (-1))) f i))) := by
    intro n
    induction n with
    | zero =>
      intro i hi
      have e : i = 5 := by omega
      subst e
      refine m_J_run hM 3 rfl ⟨trivial, trivial, trivial, trivial⟩ ?_
      refine m_J_if (fun _ => ?_) (fun hc => absurd (by decide) hc)
      exact m_vret hM rfl rfl (Nat.le_of_ble_eq_true rfl) (Nat.le_of_ble_eq_true rfl) (rfl)
    | succ n ih =>
      intro i hi
      refine m_J_run hM 3 rfl ⟨trivial, trivial, trivial, trivial⟩ ?_
      refine m_J_if (fun hc => absurd hc (nI_ge (by omega) (by omega))) (fun _ => ?_)
      refine m_J_run hM 1 rfl ⟨trivial, trivial⟩ ?_
      refine m_J_getf hM rfl rfl (k_sn hab hU) (rfl) ?_
      refine m_J_run hM 2 rfl ⟨trivial, trivial, trivial⟩ ?_
      refine m_laldN hM rfl (k_ss hA) (by omega) (by omega) ?_
      rw [k_upto_ge _ _ (Nat.le_refl i)]
      refine m_J_run hM 4 rfl ⟨trivial, trivial, trivial, trivial, trivial⟩ ?_
      refine m_lastN hM rfl (k_ss hA) (by omega) (by omega) ?_
      rw [k_s2]
      refine m_J_run hM 2 rfl ⟨trivial, trivial, trivial⟩ ?_
      refine m_eqS (ih (i + 1) (by omega)) ?_
      rw [k_succ i, ← k_upto_L]
      rfl
  have h0 := loop 5 0 rfl
  rw [k_upto_0, k_s0 hA] at h0
  exact h0
theorem u_put {x : Int64} {u : Nat} (hu : u < 5) (hU : h[a]? = some (k_uses b)) (hA : h[b]? = some (k_la 5 f)) : m_Dt l (m_EX E N xs) E mM_X7_put (d + 1) 0 0 [.ref a, .long x, .int (nI u)] h tg (some (.int (k_pc (x &&& (f u ^^^ (-1)))))) (h.set b (k_la 5 (k_put f x u))) tg := by
  have hM := mM_X7_put_ok
  refine m_Sp_of (by decide) (Nat.le_of_ble_eq_true rfl) ?_
  have hab := k_ne hU hA
  refine m_J_run hM 2 rfl ⟨trivial, trivial, trivial⟩ ?_
  refine m_J_getf hM rfl rfl (hU) (rfl) ?_
  refine m_J_run hM 1 rfl ⟨trivial, trivial⟩ ?_
  refine m_laldN hM rfl (hA) (by omega) (by omega) ?_
  refine m_J_run hM 3 rfl ⟨trivial, trivial, trivial, trivial⟩ ?_
  refine m_callS (as := [.long (x &&& (f u ^^^ (-1)))]) (rest := []) (m_EX_warm E N xs) hM rfl kw_X7_25 rfl (s_pc _) rfl (Nat.le_of_ble_eq_true rfl) (Nat.le_of_ble_eq_true rfl) (Nat.le_of_ble_eq_true rfl) (fun ht => ⟨ht, Nat.le_refl _⟩) ?_
  refine m_J_run hM 3 rfl ⟨trivial, trivial, trivial, trivial⟩ ?_
  refine m_callV (as := [.long x]) (rest := []) (m_EX_warm E N xs) hM rfl kw_X7_31 rfl rfl (hU) ⟨_, rfl, rfl⟩ (u_lift hU hA) rfl (Nat.le_of_ble_eq_true rfl) (Nat.le_of_ble_eq_true rfl) (Nat.le_of_ble_eq_true rfl) (fun ht => ⟨ht, by simp⟩) ?_
  refine m_J_run hM 1 rfl ⟨trivial, trivial⟩ ?_
  refine m_J_getf hM rfl rfl (k_sn hab hU) (rfl) ?_
  refine m_J_run hM 2 rfl ⟨trivial, trivial, trivial⟩ ?_
  refine m_laldN hM rfl (k_ss hA) (by omega) (by omega) ?_
  refine m_J_run hM 2 rfl ⟨trivial, trivial, trivial⟩ ?_
  refine m_lastN hM rfl (k_ss hA) (by omega) (by omega) ?_
  rw [k_s2]
  refine m_J_run hM 1 rfl ⟨trivial, trivial⟩ ?_
  exact m_iret hM rfl rfl rfl (Nat.le_of_ble_eq_true rfl) (Nat.le_of_ble_eq_true rfl) (rfl) (rfl)
theorem u_become {a' b' : Nat} {g : Nat → Int64} (hU : h[a]? = some (k_uses b)) (hA : h[b]? = some (k_la 5 f)) (hU' : h[a']? = some (k_uses b')) (hA' : h[b']? = some (k_la 5 g)) (hbb : b' ≠ b) : m_Dt l (m_EX E N xs) E mM_X7_become d 0 0 [.ref a, .ref a'] h tg none (h.set b (k_la 5 (k_upto g f 5))) tg := by
  have hM := mM_X7_become_ok
  refine m_Sp_of (by decide) (Nat.le_of_ble_eq_true rfl) ?_
  refine m_J_run hM 2 rfl ⟨trivial, trivial, trivial⟩ ?_
  have hab := k_ne hU hA
  have hab' := k_ne hU' hA
  have loop : ∀ n i : Nat, i + n = 5 → m_J l (m_EX E N xs) E mM_X7_become d 0 0 (m_K none (h.set b (k_la 5 (k_upto g f 5))) tg) m_no tg 0 0 (2, [some (.ref a), some (.ref a'), some (.int (nI i))], [], h.set b (k_la 5 (k_upto g f i))) := by
    intro n
    induction n with
    | zero =>
      intro i hi
      have e : i = 5 := by omega
      subst e
      refine m_J_run hM 3 rfl ⟨trivial, trivial, trivial, trivial⟩ ?_
      refine m_J_if (fun _ => ?_) (fun hc => absurd (by decide) hc)
      exact m_vret hM rfl rfl (Nat.le_of_ble_eq_true rfl) (Nat.le_of_ble_eq_true rfl) (rfl)
    | succ n ih =>
      intro i hi
      refine m_J_run hM 3 rfl ⟨trivial, trivial, trivial, trivial⟩ ?_
      refine m_J_if (fun hc => absurd hc (nI_ge (by omega) (by omega))) (fun _ => ?_)
      refine m_J_run hM 1 rfl ⟨trivial, trivial⟩ ?_
      refine m_J_getf hM rfl rfl (k_sn hab hU) (rfl) ?_
      refine m_J_run hM 2 rfl ⟨trivial, trivial, trivial⟩ ?_
      refine m_J_getf hM rfl rfl (k_sn hab' hU') (rfl) ?_
      refine m_J_run hM 1 rfl ⟨trivial, trivial⟩ ?_
      refine m_laldN hM rfl (k_sn hbb hA') (by omega) (by omega) ?_
      refine m_lastN hM rfl (k_ss hA) (by omega) (by omega) ?_
      rw [k_s2]
      refine m_J_run hM 2 rfl ⟨trivial, trivial, trivial⟩ ?_
      refine m_eqS (ih (i + 1) (by omega)) ?_
      rw [k_succ i, ← k_upto_L]
      rfl
  have h0 := loop 5 0 rfl
  rw [k_upto_0, k_s0 hA] at h0
  exact h0
theorem u_diff {a' b' : Nat} {g : Nat → Int64} (hU : h[a]? = some (k_uses b)) (hA : h[b]? = some (k_la 5 f)) (hU' : h[a']? = some (k_uses b')) (hA' : h[b']? = some (k_la 5 g)) : m_Dt l (m_EX E N xs) E mM_X7_differencesFrom (d + 1) 0 0 [.ref a, .ref a'] h tg (some (.int (nI 60 - k_same f g 5))) h tg := by
  have hM := mM_X7_differencesFrom_ok
  refine m_Sp_of (by decide) (Nat.le_of_ble_eq_true rfl) ?_
  refine m_J_run hM 4 rfl ⟨trivial, trivial, trivial, trivial, trivial⟩ ?_
  have loop : ∀ n i : Nat, i + n = 5 → m_J l (m_EX E N xs) E mM_X7_differencesFrom (d + 1) 0 0 (m_K (some (.int (nI 60 - k_same f g 5))) h tg) m_no tg 0 0 (4, [some (.ref a), some (.ref a'), some (.int (k_same f g i)), some (.int (nI i))], [], h) := by
    intro n
    induction n with
    | zero =>
      intro i hi
      have e : i = 5 := by omega
      subst e
      refine m_J_run hM 3 rfl ⟨trivial, trivial, trivial, trivial⟩ ?_
      refine m_J_if (fun _ => ?_) (fun hc => absurd (by decide) hc)
      refine m_J_run hM 3 rfl ⟨trivial, trivial, trivial, trivial⟩ ?_
      exact m_iret hM rfl rfl rfl (Nat.le_of_ble_eq_true rfl) (Nat.le_of_ble_eq_true rfl) (rfl) (rfl)
    | succ n ih =>
      intro i hi
      refine m_J_run hM 3 rfl ⟨trivial, trivial, trivial, trivial⟩ ?_
      refine m_J_if (fun hc => absurd hc (nI_ge (by omega) (by omega))) (fun _ => ?_)
      refine m_J_run hM 2 rfl ⟨trivial, trivial, trivial⟩ ?_
      refine m_J_getf hM rfl rfl (hU) (rfl) ?_
      refine m_J_run hM 1 rfl ⟨trivial, trivial⟩ ?_
      refine m_laldN hM rfl (hA) (by omega) (by omega) ?_
      refine m_J_run hM 1 rfl ⟨trivial, trivial⟩ ?_
      refine m_J_getf hM rfl rfl (hU') (rfl) ?_
      refine m_J_run hM 1 rfl ⟨trivial, trivial⟩ ?_
      refine m_laldN hM rfl (hA') (by omega) (by omega) ?_
      refine m_J_run hM 1 rfl ⟨trivial, trivial⟩ ?_
      refine m_callS (as := [.long (f i &&& g i)]) (rest := [.int (k_same f g i)]) (m_EX_warm E N xs) hM rfl kw_X7_25 rfl (s_pc _) rfl (Nat.le_of_ble_eq_true rfl) (Nat.le_of_ble_eq_true rfl) (Nat.le_of_ble_eq_true rfl) (fun ht => ⟨ht, Nat.le_refl _⟩) ?_
      refine m_J_run hM 4 rfl ⟨trivial, trivial, trivial, trivial, trivial⟩ ?_
      refine m_eqS (ih (i + 1) (by omega)) ?_
      rw [k_succ i]
      rfl
  exact loop 5 0 rfl
theorem u_like {s : Nat} (hU : h[a]? = some (k_uses b)) (hA : h[b]? = some (k_la 5 f)) : m_Dt l (m_EX E N xs) E mM_X7_likeBeside (d + 2) 0 0 [.ref a, .int (nI s)] h tg (some (.int (k_like f s 5))) h tg := by
  have hM := mM_X7_likeBeside_ok
  refine m_Sp_of (by decide) (Nat.le_of_ble_eq_true rfl) ?_
  refine m_J_run hM 1 rfl ⟨trivial, trivial⟩ ?_
  refine m_callS (as := [.int (nI s)]) (rest := []) (m_EX_warm E N xs) hM rfl kw_X7_35 rfl (s_only s) rfl (Nat.le_of_ble_eq_true rfl) (Nat.le_of_ble_eq_true rfl) (Nat.le_of_ble_eq_true rfl) (fun ht => ⟨ht, Nat.le_refl _⟩) ?_
  refine m_callS (as := [.long (k_only s)]) (rest := []) (m_EX_warm E N xs) hM rfl kw_X7_39 rfl (s_bes _) rfl (Nat.le_of_ble_eq_true rfl) (Nat.le_of_ble_eq_true rfl) (Nat.le_of_ble_eq_true rfl) (fun ht => ⟨ht, Nat.le_refl _⟩) ?_
  refine m_J_run hM 5 rfl ⟨trivial, trivial, trivial, trivial, trivial, trivial⟩ ?_
  have loop : ∀ n i : Nat, i + n = 5 → m_J l (m_EX E N xs) E mM_X7_likeBeside (d + 2) 0 0 (m_K (some (.int (k_like f s 5))) h tg) m_no tg 0 0 (14, [some (.ref a), some (.int (nI s)), some (.long (k_bes (k_only s))), none, some (.int (k_like f s i)), some (.int (nI i))], [], h) := by
    intro n
    induction n with
    | zero =>
      intro i hi
      have e : i = 5 := by omega
      subst e
      refine m_J_run hM 3 rfl ⟨trivial, trivial, trivial, trivial⟩ ?_
      refine m_J_if (fun _ => ?_) (fun hc => absurd (by decide) hc)
      refine m_J_run hM 1 rfl ⟨trivial, trivial⟩ ?_
      exact m_iret hM rfl rfl rfl (Nat.le_of_ble_eq_true rfl) (Nat.le_of_ble_eq_true rfl) (rfl) (rfl)
    | succ n ih =>
      intro i hi
      refine m_J_run hM 3 rfl ⟨trivial, trivial, trivial, trivial⟩ ?_
      refine m_J_if (fun hc => absurd hc (nI_ge (by omega) (by omega))) (fun _ => ?_)
      refine m_J_run hM 1 rfl ⟨trivial, trivial⟩ ?_
      refine m_J_getf hM rfl rfl (hU) (rfl) ?_
      refine m_J_run hM 1 rfl ⟨trivial, trivial⟩ ?_
      refine m_laldN hM rfl (hA) (by omega) (by omega) ?_
      refine m_J_run hM 1 rfl ⟨trivial, trivial⟩ ?_
      refine m_callS (as := [.long (f i), .int (nI s)]) (rest := []) (m_EX_warm E N xs) hM rfl kw_X7_19 rfl (s_has (f i) s) rfl (Nat.le_of_ble_eq_true rfl) (Nat.le_of_ble_eq_true rfl) (Nat.le_of_ble_eq_true rfl) (fun ht => ⟨ht, Nat.le_refl _⟩) ?_
      refine m_J_run hM 1 rfl ⟨trivial, trivial⟩ ?_
      refine m_J_if (fun hc => ?_) (fun hc => ?_)
      · have hc2 : ¬ k_has (f i) s = true := by intro q; rw [q] at hc; revert hc; decide
        refine m_J_run hM 2 rfl ⟨trivial, trivial, trivial⟩ ?_
        refine m_eqS (ih (i + 1) (by omega)) ?_
        rw [k_succ i, k_like, if_neg hc2]
        rfl
      · have hc2 : k_has (f i) s = true := by cases q : k_has (f i) s with
          | true => rfl
          | false => rw [q] at hc; exact absurd rfl hc
        refine m_J_run hM 3 rfl ⟨trivial, trivial, trivial, trivial⟩ ?_
        refine m_J_getf hM rfl rfl (hU) (rfl) ?_
        refine m_J_run hM 1 rfl ⟨trivial, trivial⟩ ?_
        refine m_laldN hM rfl (hA) (by omega) (by omega) ?_
        refine m_J_run hM 1 rfl ⟨trivial, trivial⟩ ?_
        refine m_callS (as := [.long (k_bes (k_only s) &&& f i)]) (rest := [.int (k_like f s i)]) (m_EX_warm E N xs) hM rfl kw_X7_25 rfl (s_pc _) rfl (Nat.le_of_ble_eq_true rfl) (Nat.le_of_ble_eq_true rfl) (Nat.le_of_ble_eq_true rfl) (fun ht => ⟨ht, Nat.le_refl _⟩) ?_
        refine m_J_run hM 4 rfl ⟨trivial, trivial, trivial, trivial, trivial⟩ ?_
        refine m_eqS (ih (i + 1) (by omega)) ?_
        rw [k_succ i, k_like, if_pos hc2]
        rfl
  exact loop 5 0 rfl
end
