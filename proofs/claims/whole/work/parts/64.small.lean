/-! SMALL ANSWERS of class and model -/
theorem k_mcnt_ct (u : Nat → Int32) (a b : Nat) (x : Int32) : ∀ n, k_mcnt u a b x n = nI (fb_ct (fun s => k_in a b s && !(decide (u s = x))) n)
  | 0 => rfl
  | n + 1 => by
    rw [k_mcnt, fb_ct, k_mcnt_ct u a b x n, ← nI_add]
    cases h : k_in a b n with
    | false => simp [nI_0]
    | true =>
      by_cases e : u n = x
      · simp [e, nI_0]
      · simp [e]
theorem k_mput_v (u : Nat → Int32) (a b : Nat) (x : Int32) : ∀ n s, k_mput u a b x n s = if s < n ∧ k_in a b s = true then x else u s
  | 0, s => by rw [k_mput, if_neg (by omega)]
  | n + 1, s => by
    rw [k_mput]
    by_cases e : s = n
    · subst e
      cases h : k_in a b s with
      | true => rw [if_pos rfl, if_pos ⟨by omega, rfl⟩]; simp [upd]
      | false => rw [if_neg (by decide), if_neg (fun q => by simp at q), k_mput_ge u a b x s s (Nat.le_refl _)]
    · have h1 : k_mput u a b x n s = if s < n + 1 ∧ k_in a b s = true then x else u s := by
        rw [k_mput_v u a b x n s]
        by_cases hc : s < n ∧ k_in a b s = true
        · rw [if_pos hc, if_pos ⟨by omega, hc.2⟩]
        · rw [if_neg hc, if_neg (fun q => hc ⟨by omega, q.2⟩)]
      split
      · rw [← h1]; simp [upd, e]
      · exact h1
theorem w_use_cnt {f : Nat → Int64} {U : Nat → Nat} (hf : w_fu f U) (hU : ∀ s, s < 60 → U s < 1000) {a b v : Nat} (ha : a < 60) (hb : b < 60) (hv : v < 5) : k_pc (k_rc a b &&& (f v ^^^ (-1))) = k_mcnt (fun s => nI (U s)) a b (nI v) 60 := by
  rw [w_pc (w_ok_and (w_ok_rc ha hb)), k_mcnt_ct]
  refine congrArg nI (fb_ct_cong (fun s hs => ?_))
  have := hU s hs
  rw [w_b_and, w_b_rc ha hb (by omega), decide_eq_true hs, Bool.true_and, w_b_not _ (by omega), w_fu_b hf hv hs]
  rw [show decide (nI (U s) = nI v) = decide (U s = v) from decide_eq_decide.mpr (nI_eq (by omega) (by omega))]
theorem w_use_land {f : Nat → Int64} {U : Nat → Nat} (hf : w_fu f U) {a b v : Nat} (ha : a < 60) (hb : b < 60) (hv : v < 5) : w_fu (k_put f (k_rc a b) v) (fun s => if s < 60 ∧ k_in a b s = true then v else U s) ∧ k_mput (fun s => nI (U s)) a b (nI v) 60 = fun s => nI (if s < 60 ∧ k_in a b s = true then v else U s) := by
  refine ⟨w_fu_cong (w_fu_put hf (w_ok_rc ha hb) hv) (fun s hs => ?_), ?_⟩
  · rw [w_b_rc ha hb (by omega), decide_eq_true hs, Bool.true_and]
    simp [hs]
  · funext s
    rw [k_mput_v]
    split <;> rfl
theorem w_soil {so : Nat → Int32} {a b : Nat} {v : Int32} (ha : a < 60) (hb : b < 60) : ∀ n, n ≤ 60 → k_soil so (k_rc a b) v n = k_mput so a b v n
  | 0, _ => rfl
  | n + 1, hn => by rw [k_soil, k_mput, w_soil ha hb n (by omega), w_has _ (by omega), w_b_rc ha hb (by omega), decide_eq_true (show n < 60 by omega), Bool.true_and]
theorem w_uo {f : Nat → Int64} {U : Nat → Nat} (hf : w_fu f U) {a : Nat} (ha : a < 60) : ∀ n i, i + n = 5 → i ≤ U a → k_uo f a n i = if U a < 5 then nI (U a) else -nI 1
  | 0, i, hi, h => by rw [k_uo, if_neg (by omega)]
  | n + 1, i, hi, h => by
    rw [k_uo, w_fu_has hf (by omega) ha]
    by_cases e : U a = i
    · rw [if_pos (decide_eq_true e), if_pos (by omega), e]
    · rw [if_neg (by simpa using e), w_uo hf ha n (i + 1) (by omega) (by omega)]
theorem fb_sing (c : Bool) (b : Nat) (p : Nat → Bool) : ∀ n, fb_ct (fun t => (c && decide (t = b)) && p t) n = if (c && decide (b < n)) && p b then 1 else 0
  | 0 => by rw [fb_ct, decide_eq_false (by omega), Bool.and_false, Bool.false_and]; rfl
  | n + 1 => by
    rw [fb_ct, fb_sing c b p n]
    by_cases e : n = b
    · subst e
      rw [decide_eq_false (show ¬ n < n by omega), decide_eq_true (show n < n + 1 by omega), decide_eq_true (rfl : n = n), Bool.and_false, Bool.false_and, Bool.and_true]
      simp
    · rw [decide_eq_false e, show decide (b < n + 1) = decide (b < n) from decide_eq_decide.mpr (by omega), Bool.and_false, Bool.false_and]
      simp
theorem w_four (p : Nat → Bool) {a : Nat} (ha : a < 60) : fb_ct (fun t => y_nb (fun j => decide (j = a)) t 4 && p t) 60 = (if (k_bd a 0).elim false p then 1 else 0) + (if (k_bd a 1).elim false p then 1 else 0) + (if (k_bd a 2).elim false p then 1 else 0) + (if (k_bd a 3).elim false p then 1 else 0) := by
  have e : fb_ct (fun t => y_nb (fun j => decide (j = a)) t 4 && p t) 60 = fb_ct (fun t => ((((decide (10 ≤ a) && decide (t = a - 10)) && p t) || ((decide (0 < a % 10) && decide (t = a - 1)) && p t)) || ((decide (a % 10 < 9) && decide (t = a + 1)) && p t)) || ((decide (a < 50) && decide (t = a + 10)) && p t)) 60 := by
    refine fb_ct_cong (fun t ht => ?_)
    rw [y_nb4]
    simp only [← Bool.decide_and]
    rw [show decide (10 ≤ t ∧ t - 10 = a) = decide (a < 50 ∧ t = a + 10) from decide_eq_decide.mpr (by omega), show decide (0 < t % 10 ∧ t - 1 = a) = decide (a % 10 < 9 ∧ t = a + 1) from decide_eq_decide.mpr (by omega), show decide (t % 10 < 9 ∧ t + 1 = a) = decide (0 < a % 10 ∧ t = a - 1) from decide_eq_decide.mpr (by omega), show decide (t < 50 ∧ t + 10 = a) = decide (10 ≤ a ∧ t = a - 10) from decide_eq_decide.mpr (by omega)]
    generalize decide (a < 50 ∧ t = a + 10) = x1
    generalize decide (a % 10 < 9 ∧ t = a + 1) = x2
    generalize decide (0 < a % 10 ∧ t = a - 1) = x3
    generalize decide (10 ≤ a ∧ t = a - 10) = x4
    generalize p t = x5
    cases x1 <;> cases x2 <;> cases x3 <;> cases x4 <;> cases x5 <;> rfl
  rw [e, fb_ct_or, fb_ct_or, fb_ct_or, fb_sing, fb_sing, fb_sing, fb_sing]
  · have e0 : (k_bd a 0).elim false p = ((decide (10 ≤ a) && decide (a - 10 < 60)) && p (a - 10)) := by
      rw [decide_eq_true (show a - 10 < 60 by omega), Bool.and_true]
      unfold k_bd; by_cases h : 10 ≤ a <;> simp [h]
    have e1 : (k_bd a 1).elim false p = ((decide (0 < a % 10) && decide (a - 1 < 60)) && p (a - 1)) := by
      rw [decide_eq_true (show a - 1 < 60 by omega), Bool.and_true]
      unfold k_bd; by_cases h : 0 < a % 10 <;> simp [h]
    have e2 : (k_bd a 2).elim false p = ((decide (a % 10 < 9) && decide (a + 1 < 60)) && p (a + 1)) := by
      unfold k_bd
      by_cases h : a % 10 < 9
      · rw [decide_eq_true (show a + 1 < 60 by omega)]; simp [h]
      · simp [h]
    have e3 : (k_bd a 3).elim false p = ((decide (a < 50) && decide (a + 10 < 60)) && p (a + 10)) := by
      unfold k_bd
      by_cases h : a < 50
      · rw [decide_eq_true (show a + 10 < 60 by omega)]; simp [h]
      · simp [h]
    rw [e0, e1, e2, e3]
  · intro t _; simp only [Bool.and_eq_true, decide_eq_true_eq]; omega
  · intro t _; simp only [Bool.and_eq_true, Bool.or_eq_true, decide_eq_true_eq]; omega
  · intro t _; simp only [Bool.and_eq_true, Bool.or_eq_true, decide_eq_true_eq]; omega
theorem w_like {f : Nat → Int64} {U : Nat → Nat} (hf : w_fu f U) (hU : ∀ s, s < 60 → U s < 5) {a : Nat} (ha : a < 60) : k_like f a 5 = nI (y_lk (fun s => nI (U s)) a 4) := by
  have hs : ∀ n, n ≤ 5 → k_like f a n = if U a < n then k_pc (k_bes (k_only a) &&& f (U a)) else nI 0 := by
    intro n
    induction n with
    | zero => intro _; rfl
    | succ n ih =>
      intro hn
      rw [k_like, ih (by omega), w_fu_has hf (by omega) ha]
      by_cases e : U a = n
      · rw [if_pos (decide_eq_true e), if_neg (by omega), if_pos (by omega), e, nI_0, Int32.zero_add]
      · rw [if_neg (by simpa using e)]
        by_cases e2 : U a < n
        · rw [if_pos e2, if_pos (by omega)]
        · rw [if_neg e2, if_neg (by omega)]
  have h5 := hU a ha
  rw [hs 5 (by omega), if_pos h5, w_pc (w_ok_and (w_ok_bes _))]
  refine congrArg nI ?_
  rw [fb_ct_cong (q := fun t => y_nb (fun j => decide (j = a)) t 4 && decide (U t = U a)) (fun t ht => ?_), w_four _ ha]
  · have e : ∀ w, w < 4 → y_lkb (fun s => nI (U s)) a w = (k_bd a w).elim false (fun t => decide (U t = U a)) := fun w hw => by
      unfold y_lkb
      cases hb : k_bd a w with
      | none => rfl
      | some t =>
        have := hU t (k_bd_lt ha hb)
        exact decide_eq_decide.mpr (nI_eq (by omega) (by omega))
    simp only [y_lk]
    rw [e 0 (by omega), e 1 (by omega), e 2 (by omega), e 3 (by omega), Nat.zero_add]
  · rw [w_b_and, w_b_bes (w_ok_only ha) ht, w_fu_b hf h5 ht, y_nb_cong ht (fun j _ => w_b_only (by omega) j)]
theorem y_df_ct (f g : Nat → Int32) : ∀ n, y_df f g n = fb_ct (fun s => !(decide (f s = g s))) n
  | 0 => rfl
  | n + 1 => by rw [y_df, fb_ct, y_df_ct f g n]; by_cases e : f n = g n <;> simp [e]
theorem w_same {f g : Nat → Int64} {U V : Nat → Nat} (hf : w_fu f U) (hg : w_fu g V) (hU : ∀ s, s < 60 → U s < 5) (hV : ∀ s, s < 60 → V s < 5) : nI 60 - k_same f g 5 = nI (y_df (fun s => nI (U s)) (fun s => nI (V s)) 60) := by
  have hs : ∀ n, n ≤ 5 → k_same f g n = nI (fb_ct (fun s => decide (U s = V s ∧ U s < n)) 60) := by
    intro n
    induction n with
    | zero => intro _; rw [fb_ct_zero.mpr (fun s _ => decide_eq_false (by omega))]; rfl
    | succ n ih =>
      intro hn
      rw [k_same, ih (by omega), w_pc (w_ok_and (w_fu_ok hf (by omega))), nI_add, ← fb_ct_or]
      · refine congrArg nI (fb_ct_cong (fun s hs => ?_))
        rw [w_b_and, w_fu_b hf (by omega) hs, w_fu_b hg (by omega) hs, ← Bool.decide_and, ← Bool.decide_or]
        exact decide_eq_decide.mpr (by omega)
      · intro s hs
        rw [w_b_and, w_fu_b hf (by omega) hs, w_fu_b hg (by omega) hs, ← Bool.decide_and, decide_eq_true_eq, decide_eq_true_eq]
        omega
  rw [hs 5 (by omega)]
  have hle := fb_ct_le (fun s => decide (U s = V s ∧ U s < 5)) 60
  rw [show nI 60 - nI (fb_ct (fun s => decide (U s = V s ∧ U s < 5)) 60) = nI (60 - fb_ct (fun s => decide (U s = V s ∧ U s < 5)) 60) from pk_sub hle, y_df_ct]
  have hn := fb_ct_not (fun s => decide (U s = V s ∧ U s < 5)) 60
  rw [fb_ct_cong (p := fun s => !(decide (nI (U s) = nI (V s)))) (q := fun s => !(decide (U s = V s ∧ U s < 5))) (fun s hs => ?_)]
  · exact congrArg nI (by omega)
  · have := hU s hs; have := hV s hs
    refine congrArg Bool.not (decide_eq_decide.mpr ?_)
    rw [nI_eq (by omega) (by omega)]; omega
theorem y_kp_v (pl u : Nat → Int32) (p : Nat) : ∀ n j, y_kp pl u p n j = if 60 * p ≤ j ∧ j < 60 * p + n then u (j - 60 * p) else pl j
  | 0, j => by rw [y_kp, if_neg (by omega)]
  | n + 1, j => by
    rw [y_kp]
    by_cases e : j = 60 * p + n
    · subst e
      rw [if_pos (by omega), show 60 * p + n - 60 * p = n by omega]; simp [upd]
    · have : upd (y_kp pl u p n) (60 * p + n) (u n) j = y_kp pl u p n j := by simp [upd, e]
      rw [this, y_kp_v pl u p n j]
      by_cases h : 60 * p ≤ j ∧ j < 60 * p + n
      · rw [if_pos h, if_pos (by omega)]
      · rw [if_neg h, if_neg (by omega)]
theorem w_feed (g fv : Nat → Int32) (n : Nat) (a b c e i : Int32) : k_ap (k_ap (k_ap (k_ap (k_ap g n a 4) (n + 4) b 4) (n + 8) c 4) (n + 12) e 4) (n + 16) i 4 = y_fd g n (y_f5 fv a b c e i) 20 := rfl
/-! growth -/
def w_fm (p : Nat → Bool) (v : Nat → Nat) (x : Nat) : Nat → Nat → Nat
  | 0, _ => x
  | n + 1, i => if p i then v i else w_fm p v x n (i + 1)
theorem w_fm_lt {p : Nat → Bool} {v : Nat → Nat} {x b : Nat} (hx : x < b) : ∀ n i, (∀ j, i ≤ j → j < i + n → v j < b) → w_fm p v x n i < b
  | 0, _, _ => hx
  | n + 1, i, h => by
    rw [w_fm]
    split
    · exact h i (by omega) (by omega)
    · exact w_fm_lt hx n (i + 1) (fun j h1 h2 => h j (by omega) (by omega))
theorem w_fm_cong {p p' : Nat → Bool} {v : Nat → Nat} {x : Nat} : ∀ n i, (∀ j, i ≤ j → j < i + n → p j = p' j) → w_fm p v x n i = w_fm p' v x n i
  | 0, _, _ => rfl
  | n + 1, i, h => by rw [w_fm, w_fm, h i (by omega) (by omega), w_fm_cong n (i + 1) (fun j h1 h2 => h j (by omega) (by omega))]
theorem w_g1 {q : Nat → kL} {f g : Nat → Int64} {V : Nat → Nat} (hg : w_fu g V) {sq : Nat} (hs : sq < 60) : ∀ n i, (∀ j, i ≤ j → j < i + n → (q j).2.2.2.1 < 5) → w_fu (k_g1 q f g sq n i) (fun s => if s = sq then w_fm (fun i => k_go (q i) f sq) (fun i => (q i).2.2.2.1) (V sq) n i else V s)
  | 0, i, _ => w_fu_cong hg (fun s _ => by by_cases e : s = sq <;> simp [e, w_fm])
  | n + 1, i, h => by
    rw [k_g1]
    cases hc : k_go (q i) f sq with
    | true =>
      rw [if_pos rfl]
      refine w_fu_cong (w_fu_put hg (w_ok_only hs) (h i (by omega) (by omega))) (fun s _ => ?_)
      rw [w_b_only (by omega), w_fm, if_pos hc]
      by_cases e : s = sq <;> simp [e]
    | false =>
      rw [if_neg (by decide)]
      refine w_fu_cong (w_g1 hg hs n (i + 1) (fun j h1 h2 => h j (by omega) (by omega))) (fun s _ => ?_)
      rw [w_fm, hc]
      simp
theorem w_g60 {q : Nat → kL} {f g : Nat → Int64} {U : Nat → Nat} {m : Nat} (hg : w_fu g U) (hq : ∀ j, j < m → (q j).2.2.2.1 < 5) : ∀ n, n ≤ 60 → w_fu (k_g60 q f g m n) (fun s => if s < n then w_fm (fun i => k_go (q i) f s) (fun i => (q i).2.2.2.1) (U s) m 0 else U s)
  | 0, _ => w_fu_cong hg (fun s _ => by rw [if_neg (by omega)])
  | n + 1, hn => by
    rw [k_g60]
    refine w_fu_cong (w_g1 (w_g60 hg hq n (by omega)) (by omega) m 0 (fun j _ h2 => hq j (by omega))) (fun s _ => ?_)
    by_cases e : s = n
    · subst e
      rw [if_pos rfl, if_neg (Nat.lt_irrefl s), if_pos (Nat.lt_succ_self s)]
    · rw [if_neg e]
      by_cases e2 : s < n
      · rw [if_pos e2, if_pos (by omega)]
      · rw [if_neg e2, if_neg (by omega)]
theorem y_nv_fm {p : Nat → Bool} {v : Nat → Int32} {w : Nat → Nat} {x : Nat} {N : Nat} (h : ∀ i, i < N → p i = true → v i = nI (w i)) : ∀ m, m ≤ N → y_nv p v (nI x) N m = nI (w_fm p w x m (N - m))
  | 0, _ => rfl
  | m + 1, hm => by
    rw [y_nv, w_fm, y_nv_fm h m (by omega), show N - (m + 1) + 1 = N - m by omega, show N - m - 1 = N - (m + 1) by omega]
    cases hp : p (N - (m + 1)) with
    | true => rw [if_pos rfl, if_pos rfl, h _ (by omega) hp]
    | false => rw [if_neg (by decide), if_neg (by decide)]
section
variable {aK aO aT aH aW aS aL so : Nat → Int32} {k : Nat} {f : Nat → Int64} {U : Nat → Nat} {q : kL}
theorem y_gc_ct {o st s : Nat} (hH : aH k = nI o) (hS : aS k = nI st) (ho : o < 1000) (hst : st < 1000) (hU : ∀ s, s < 60 → U s < 1000) (hs : s < 60) : ∀ n, n ≤ 60 → y_gc aH aS (fun s => nI (U s)) k s n = fb_ct (fun t => decide (k_apN s t ≤ st ∧ ¬ t = s) && decide (U t = o)) n
  | 0, _ => rfl
  | n + 1, hn => by
    rw [y_gc, fb_ct, y_gc_ct hH hS ho hst hU hs n (by omega), hH, hS]
    have h1 := hU n (by omega)
    have h2 := w_apN_lt hs (show n < 60 by omega)
    refine congrArg (HAdd.hAdd (fb_ct (fun t => decide (k_apN s t ≤ st ∧ ¬ t = s) && decide (U t = o)) n)) ?_
    by_cases e : n = s
    · rw [if_pos e, decide_eq_false (fun h => h.2 e), Bool.false_and]; rfl
    · rw [if_neg e]
      by_cases e2 : U n = o
      · rw [if_pos (by rw [e2])]
        by_cases e3 : k_apN s n ≤ st
        · rw [if_neg (nI_nlt e3 (by omega)), decide_eq_true ⟨e3, e⟩, decide_eq_true e2]; rfl
        · rw [if_pos (nI_lt (by omega) (by omega)), decide_eq_false (fun h => e3 h.1)]; rfl
      · rw [if_neg (fun h => e2 ((nI_eq (by omega) (by omega)).mp h)), decide_eq_false e2, Bool.and_false]; rfl
theorem w_go (hq : k_lok q) (hr : y_LR q aK aO aT aH aW aS aL k) (hf : w_fu f U) (hU : ∀ s, s < 60 → U s < 1000) {s : Nat} (hs : s < 60) : k_go q f s = y_gr aK aO aH aS aL (fun s => nI (U s)) k s := by
  have hk := w_kind hr hq (j := 6) (by omega)
  have hu := hU s hs
  unfold k_go y_gr
  refine decide_eq_decide.mpr ?_
  rw [hk]
  refine and_congr_right (fun c => ?_)
  obtain ⟨-, hH, hS, hL⟩ := hr.2.2.2.2.2.2.2 c
  obtain ⟨q1, q2, q3, q4, q5, q6, q7⟩ := hq
  rw [w_fu_has hf q2 hs, decide_eq_true_eq, hr.2.1, nI_eq (by omega) (by omega), w_pc_ar hf hs q3, y_gc_ct hH hS (by omega) (by omega) hU hs 60 (by omega), hL]
theorem w_isl (hq : k_lok q) (hr : y_LR q aK aO aT aH aW aS aL k) : k_isl q = y_isl aK k := by
  unfold k_isl y_isl
  have := hq.1
  rw [hr.1, k_imN (by omega) (by omega) (by omega), ← Bool.decide_and]
theorem w_hb (hq : k_lok q) (hr : y_LR q aK aO aT aH aW aS aL k) (hf : w_fu f U) (hU : ∀ s, s < 60 → U s < 1000) : k_br q f = !(y_hb q.1 aO aT aS aL (fun s => nI (U s)) k) := by
  have hbp := w_bp hq hf
  have q1 := hq.1
  have q2 := hq.2.1
  have q3 := hq.2.2.1
  have q5 := hq.2.2.2.2.1
  have q7 := hq.2.2.2.2.2.2
  have hO := hr.2.1
  unfold k_br k_bw
  rcases (show q.1 = 0 ∨ q.1 = 1 ∨ q.1 = 2 ∨ q.1 = 3 ∨ q.1 = 4 ∨ q.1 = 5 ∨ q.1 = 6 by omega) with c | c | c | c | c | c | c
  · rw [c]; rfl
  · rw [c]; rfl
  · obtain ⟨hT, hS⟩ := hr.2.2.2.2.1 c
    rw [if_pos c, c]
    have h1 := y_apb_near (aO := aO) (aT := aT) (aS := aS) (k := k) hO hT hS (by omega) (by omega) (by omega) (q7 c) hU
    show k_bp q f = !(y_apb aO aT aS (fun s => nI (U s)) k)
    cases hb : y_apb aO aT aS (fun s => nI (U s)) k with
    | false => exact hbp.mpr ⟨c, h1.mp hb⟩
    | true =>
      cases hp : k_bp q f with
      | false => rfl
      | true =>
        have := h1.mpr (hbp.mp hp).2
        rw [hb] at this
        exact absurd this (by decide)
  · have hL := hr.2.2.2.2.2.1 c
    rw [if_neg (by omega), if_pos c, c]
    show decide (¬ q.2.2.2.2.2.2 ≤ k_pc (f q.2.1)) = !(!(decide (nI (y_cnt (fun s => nI (U s)) (aO k) 60) < aL k)))
    rw [Bool.not_not, hO, hL, w_pcU hf q2, w_cntU hU (by omega)]
    exact decide_eq_decide.mpr Int32.not_le
  · have hL := hr.2.2.2.2.2.2.1 c
    rw [if_neg (by omega), if_neg (by omega), if_pos c, c]
    show decide (¬ k_pc (f q.2.1) ≤ q.2.2.2.2.2.2) = !(!(decide (aL k < nI (y_cnt (fun s => nI (U s)) (aO k) 60))))
    rw [Bool.not_not, hO, hL, w_pcU hf q2, w_cntU hU (by omega)]
    exact decide_eq_decide.mpr Int32.not_le
  · rw [if_neg (by omega), if_neg (by omega), if_neg (by omega), if_pos c, c]
    show (!(k_jo (f q.2.1))) = (!(y_jnb (fun s => nI (U s)) (aO k)))
    rw [hO, w_jo (w_fu_ok hf q2) (fun s hs => ?_)]
    rw [w_fu_b hf q2 hs]
    have := hU s hs
    exact decide_eq_decide.mpr (nI_eq (by omega) (by omega)).symm
  · rw [c]; rfl
end
