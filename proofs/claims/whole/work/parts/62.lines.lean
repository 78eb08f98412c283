/-! LINES: what they are worth and whether they are kept, of the class and of the model -/
theorem w_apN_lt {s t : Nat} (hs : s < 60) (ht : t < 60) : k_apN s t < 1000 := by unfold k_apN; omega
section
variable {aK aO aT aH aW aS aL so : Nat → Int32} {k : Nat} {F : Nat → Int64} {U : Nat → Nat} {q : kL}
theorem w_prE {a b st s t x y : Nat} (h0 : aK k = 0) (hO : aO k = nI a) (hT : aT k = nI b) (hS : aS k = nI st) (ha : a < 1000) (hb : b < 1000) (hst : st < 1000) (hx : x < 1000) (hy : y < 1000) (hap : k_apN s t < 1000) :
    y_pr aK aO aT aW aS k s t (nI x) (nI y) = (if decide (x = a) && (decide (k_apN s t ≤ st) && decide (y = b)) then aW k else nI 0) + (if decide (y = a) && (decide (k_apN s t ≤ st) && decide (x = b)) then aW k else nI 0) := by
  unfold y_pr
  rw [if_pos h0, hO, hT, hS]
  have e1 : (nI a = nI x) = (decide (x = a) = true) := propext ⟨fun h => decide_eq_true ((nI_eq (by omega) (by omega)).mp h).symm, fun h => by rw [of_decide_eq_true h]⟩
  have e2 : (nI b = nI y) = (decide (y = b) = true) := propext ⟨fun h => decide_eq_true ((nI_eq (by omega) (by omega)).mp h).symm, fun h => by rw [of_decide_eq_true h]⟩
  have e3 : (nI a = nI y) = (decide (y = a) = true) := propext ⟨fun h => decide_eq_true ((nI_eq (by omega) (by omega)).mp h).symm, fun h => by rw [of_decide_eq_true h]⟩
  have e4 : (nI b = nI x) = (decide (x = b) = true) := propext ⟨fun h => decide_eq_true ((nI_eq (by omega) (by omega)).mp h).symm, fun h => by rw [of_decide_eq_true h]⟩
  have e5 : (nI (k_apN s t) ≤ nI st) = (decide (k_apN s t ≤ st) = true) := propext ⟨fun h => decide_eq_true ((nI_leI (by omega) (by omega)).mp h), fun h => (nI_leI (by omega) (by omega)).mpr (of_decide_eq_true h)⟩
  simp only [e1, e2, e3, e4, e5]
  generalize decide (x = a) = p1
  generalize decide (y = b) = p2
  generalize decide (y = a) = p3
  generalize decide (x = b) = p4
  generalize decide (k_apN s t ≤ st) = p5
  cases p1 <;> cases p2 <;> cases p3 <;> cases p4 <;> cases p5 <;> simp [nI_0]
theorem y_pr_k (h0 : ¬ aK k = 0) (s t : Nat) (x y : Int32) : y_pr aK aO aT aW aS k s t x y = 0 := by unfold y_pr; rw [if_neg h0]; exact nI_0
theorem y_al_k (h0 : ¬ aK k = nI 1) (s : Nat) (x : Int32) : y_al aK aO aW aS so k s x = 0 := by unfold y_al; rw [if_neg h0]; exact nI_0
theorem y_al_E {a lo s x : Nat} (h0 : aK k = nI 1) (hO : aO k = nI a) (hS : aS k = nI lo) (ha : a < 1000) (hx : x < 1000) : y_al aK aO aW aS so k s (nI x) = if decide (x = a) && !(decide (so s < nI lo)) then aW k else nI 0 := by
  unfold y_al
  rw [if_pos h0, hO, hS]
  have e1 : (nI a = nI x) = (decide (x = a) = true) := propext ⟨fun h => decide_eq_true ((nI_eq (by omega) (by omega)).mp h).symm, fun h => by rw [of_decide_eq_true h]⟩
  simp only [e1]
  by_cases h : so s < nI lo
  · simp [h]
  · simp [h]
theorem w_kind (hr : y_LR q aK aO aT aH aW aS aL k) (hq : k_lok q) {j : Nat} (hj : j ≤ 6) : aK k = nI j ↔ q.1 = j := by
  rw [hr.1]
  have := hq.1
  exact nI_eq (by omega) (by omega)
theorem w_lw (hq : k_lok q) (hr : y_LR q aK aO aT aH aW aS aL k) (hf : w_fu F U) (hU : ∀ s, s < 60 → U s < 1000) : k_lw q F so = y_ad aK aO aT aW aS so (fun s => nI (U s)) k 60 := by
  have hk0 := w_kind hr hq (j := 0) (by omega)
  have hk1 := w_kind hr hq (j := 1) (by omega)
  obtain ⟨q1, q2, q3, q4, q5, q6, q7⟩ := hq
  unfold k_lw
  rw [y_ad_D, w_D_split]
  by_cases c0 : q.1 = 0
  · rw [if_pos c0]
    obtain ⟨hT, hS, hW⟩ := hr.2.2.1 c0
    have h0 : aK k = 0 := (hk0.mpr c0).trans nI_0
    rw [k_cp_sum hf q2 q3 _ 60 (by omega), k_sum_0 (fun s _ => y_al_k (fun h => by rw [hk1] at h; omega) s _), Int32.zero_add]
    refine (w_dbl (e := fun s t => if decide (U s = q.2.1) && (decide (k_apN s t ≤ q.2.2.2.2.1 ∧ ¬ t = s) && decide (U t = q.2.2.1)) then q.2.2.2.2.2.2 else nI 0) (fun s => by simp [nI_0]) 60).symm.trans (k_sum_cong (fun s hs => k_sum_cong (fun t ht => ?_)))
    have := hU s hs; have := hU t (by omega)
    rw [w_prE h0 hr.2.1 hT hS (by omega) (by omega) (by omega) (by omega) (by omega) (w_apN_lt hs (by omega)), hW]
    rw [show decide (k_apN s t ≤ q.2.2.2.2.1 ∧ ¬ t = s) = decide (k_apN s t ≤ q.2.2.2.2.1) from decide_eq_decide.mpr (by omega), show decide (k_apN t s ≤ q.2.2.2.2.1 ∧ ¬ s = t) = decide (k_apN s t ≤ q.2.2.2.2.1) by rw [k_apN_c t s]; exact decide_eq_decide.mpr (by omega)]
  · rw [if_neg c0, k_sum_0 (f := fun s => k_sum ((fun s t => y_pr aK aO aT aW aS k s t (nI (U s)) (nI (U t))) s) s) (fun s _ => k_sum_0 (fun t _ => y_pr_k (fun h => c0 (hk0.mp (h.trans nI_0.symm))) _ _ _ _)), Int32.add_zero]
    by_cases c1 : q.1 = 1
    · rw [if_pos c1]
      obtain ⟨hS, hW⟩ := hr.2.2.2.1 c1
      rw [k_cs_sum hf q2 _ 60 (by omega)]
      refine k_sum_cong (fun s hs => ?_)
      have := hU s hs
      rw [y_al_E (hk1.mpr c1) hr.2.1 hS (by omega) (by omega), hW]
    · rw [if_neg c1, nI_0]
      exact (k_sum_0 (fun s _ => y_al_k (fun h => c1 (hk1.mp h)) s _)).symm
theorem w_lwp (hq : k_lok q) (hr : y_LR q aK aO aT aH aW aS aL k) (hf : w_fu F U) (hU : ∀ s, s < 60 → U s < 1000) {s v : Nat} (hs : s < 60) (hv : v < 5) (hUs : 5 ≤ U s) : k_lwp q F so s v = y_al aK aO aW aS so k s (nI v) + k_sum (fun t => y_pr aK aO aT aW aS k s t (nI v) (nI (U t))) 60 := by
  have hk0 := w_kind hr hq (j := 0) (by omega)
  have hk1 := w_kind hr hq (j := 1) (by omega)
  obtain ⟨q1, q2, q3, q4, q5, q6, q7⟩ := hq
  unfold k_lwp
  by_cases c0 : q.1 = 0
  · rw [if_pos c0]
    obtain ⟨hT, hS, hW⟩ := hr.2.2.1 c0
    have h0 : aK k = 0 := (hk0.mpr c0).trans nI_0
    rw [y_al_k (fun h => by rw [hk1] at h; omega) s _, Int32.zero_add]
    have e : ∀ t, t < 60 → y_pr aK aO aT aW aS k s t (nI v) (nI (U t)) = (if decide (v = q.2.1) && (decide (k_apN s t ≤ q.2.2.2.2.1 ∧ ¬ t = s) && decide (U t = q.2.2.1)) then q.2.2.2.2.2.2 else nI 0) + (if decide (v = q.2.2.1) && (decide (k_apN s t ≤ q.2.2.2.2.1 ∧ ¬ t = s) && decide (U t = q.2.1)) then q.2.2.2.2.2.2 else nI 0) := fun t ht => by
      have := hU t ht
      rw [w_prE h0 hr.2.1 hT hS (by omega) (by omega) (by omega) (by omega) (by omega) (w_apN_lt hs ht), hW]
      by_cases e : t = s
      · subst e
        rw [show decide (U t = q.2.2.1) = false from decide_eq_false (by omega), show decide (U t = q.2.1) = false from decide_eq_false (by omega)]
        simp
      · rw [show decide (k_apN s t ≤ q.2.2.2.2.1 ∧ ¬ t = s) = decide (k_apN s t ≤ q.2.2.2.2.1) from decide_eq_decide.mpr ⟨fun h => h.1, fun h => ⟨h, e⟩⟩]
        rw [Bool.and_comm (decide (k_apN s t ≤ q.2.2.2.2.1)) (decide (v = q.2.2.1)), ← Bool.and_assoc (decide (U t = q.2.1)), Bool.and_comm (decide (U t = q.2.1)) (decide (v = q.2.2.1)), Bool.and_assoc, Bool.and_comm (decide (U t = q.2.1))]
    rw [k_sum_cong e, k_sum_add]
    unfold k_np
    by_cases ca : v = q.2.1
    · by_cases cb : v = q.2.2.1
      · simp only [if_pos ca, if_pos cb, decide_eq_true ca, decide_eq_true cb, Bool.true_and]
        rw [k_sum_ct, k_sum_ct, w_pc_ar hf hs q3, w_pc_ar hf hs q2, Int32.mul_add, nI_0, Int32.zero_add]
      · simp only [if_pos ca, if_neg cb, decide_eq_true ca, decide_eq_false cb, Bool.true_and, Bool.false_and]
        rw [k_sum_ct, w_pc_ar hf hs q3, k_sum_0 (f := fun i => if false = true then _ else nI 0) (fun i _ => by simp [nI_0]), nI_0, Int32.zero_add, Int32.add_zero]
    · by_cases cb : v = q.2.2.1
      · simp only [if_neg ca, if_pos cb, decide_eq_false ca, decide_eq_true cb, Bool.true_and, Bool.false_and]
        rw [k_sum_0 (f := fun i => if false = true then q.2.2.2.2.2.2 else nI 0) (fun i _ => by simp [nI_0]), k_sum_ct, w_pc_ar hf hs q2, nI_0, Int32.zero_add, Int32.zero_add]
      · simp only [if_neg ca, if_neg cb, decide_eq_false ca, decide_eq_false cb, Bool.false_and]
        rw [k_sum_0 (f := fun i => if false = true then _ else nI 0) (fun i _ => by simp [nI_0]), nI_0, Int32.mul_zero]
        decide
  · rw [if_neg c0, k_sum_0 (fun t _ => y_pr_k (fun h => c0 (hk0.mp (h.trans nI_0.symm))) _ _ _ _), Int32.add_zero]
    by_cases c1 : q.1 = 1
    · obtain ⟨hS, hW⟩ := hr.2.2.2.1 c1
      rw [y_al_E (hk1.mpr c1) hr.2.1 hS (by omega) (by omega), hW]
      by_cases ca : v = q.2.1 ∧ ¬ so s < nI q.2.2.2.2.2.1
      · rw [if_pos ⟨c1, ca⟩, if_pos (by simpa using ca)]
      · rw [if_neg (fun h => ca h.2), if_neg (by simpa using ca)]
    · rw [if_neg (fun h => c1 h.1), y_al_k (fun h => c1 (hk1.mp h)) s _, nI_0]
/-! pairs that are too near -/
def w_near (U : Nat → Nat) (a b st : Nat) : Prop := ∃ s t, s < 60 ∧ t < 60 ∧ U s = a ∧ U t = b ∧ ¬ t = s ∧ k_apN s t ≤ st
theorem k_cp_pos (hf : w_fu F U) {a b st : Nat} (ha : a < 5) (hb : b < 5) : ∀ n, n ≤ 60 → ∃ c, c ≤ 60 * n ∧ k_cp F a b st n = nI c ∧ (0 < c ↔ ∃ s t, s < n ∧ t < 60 ∧ U s = a ∧ U t = b ∧ ¬ t = s ∧ k_apN s t ≤ st)
  | 0, _ => ⟨0, by omega, rfl, by constructor; (intro h; omega); (rintro ⟨s, t, h, -⟩; omega)⟩
  | n + 1, hn => by
    obtain ⟨c, h1, h2, h3⟩ := k_cp_pos hf ha hb (st := st) n (by omega)
    rw [k_cp, w_fu_has hf ha (by omega), h2, w_pc_ar hf (by omega) hb]
    have hle := fb_ct_le (fun t => decide (k_apN n t ≤ st ∧ ¬ t = n) && decide (U t = b)) 60
    have hp := fb_ct_pos (p := fun t => decide (k_apN n t ≤ st ∧ ¬ t = n) && decide (U t = b)) (n := 60)
    by_cases e : U n = a
    · refine ⟨c + fb_ct (fun t => decide (k_apN n t ≤ st ∧ ¬ t = n) && decide (U t = b)) 60, by omega, by rw [if_pos (decide_eq_true e), nI_add], ?_⟩
      constructor
      · intro h
        by_cases hc : 0 < c
        · obtain ⟨s, t, a1, a2⟩ := h3.mp hc
          exact ⟨s, t, by omega, a2⟩
        · obtain ⟨t, a1, a2⟩ := hp.mp (by omega)
          simp only [Bool.and_eq_true, decide_eq_true_eq] at a2
          exact ⟨n, t, by omega, a1, e, a2.2, a2.1.2, a2.1.1⟩
      · rintro ⟨s, t, a1, a2, a3, a4, a5, a6⟩
        by_cases es : s = n
        · subst es
          have := hp.mpr ⟨t, a2, by simp only [Bool.and_eq_true, decide_eq_true_eq]; exact ⟨⟨a6, a5⟩, a4⟩⟩
          omega
        · have := h3.mpr ⟨s, t, by omega, a2, a3, a4, a5, a6⟩
          omega
    · refine ⟨c, by omega, by rw [if_neg (by simpa using e)], ?_⟩
      rw [h3]
      constructor
      · rintro ⟨s, t, a1, a2⟩
        exact ⟨s, t, by omega, a2⟩
      · rintro ⟨s, t, a1, a2, a3, a4⟩
        exact ⟨s, t, by have : ¬ s = n := (fun q => e (q ▸ a3)); omega, a2, a3, a4⟩
theorem nI_pos_iff {c : Nat} (h : c < 2 ^ 31) : ¬ nI c ≤ 0 ↔ 0 < c := by
  rw [← nI_0, nI_leI (by omega) (by omega)]; omega
theorem w_bp (hq : k_lok q) (hf : w_fu F U) : k_bp q F = true ↔ q.1 = 2 ∧ w_near U q.2.1 q.2.2.1 (q.2.2.2.2.1 - 1) := by
  obtain ⟨c, h1, h2, h3⟩ := k_cp_pos hf (st := q.2.2.2.2.1 - 1) hq.2.1 hq.2.2.1 60 (by omega)
  unfold k_bp
  rw [h2, decide_eq_true_eq, nI_pos_iff (by omega), h3]
  exact Iff.rfl
theorem w_bpp (hq : k_lok q) (hf : w_fu F U) {s v : Nat} (hs : s < 60) (hv : v < 5) : k_bpp q F s v = true ↔ q.1 = 2 ∧ ∃ t, t < 60 ∧ ¬ t = s ∧ k_apN s t ≤ q.2.2.2.2.1 - 1 ∧ ((v = q.2.1 ∧ U t = q.2.2.1) ∨ (v = q.2.2.1 ∧ U t = q.2.1)) := by
  unfold k_bpp
  rw [decide_eq_true_eq]
  refine and_congr_right (fun _ => ?_)
  unfold k_np
  rw [w_pc_ar hf hs hq.2.2.1, w_pc_ar hf hs hq.2.1]
  have l1 := fb_ct_le (fun t => decide (k_apN s t ≤ q.2.2.2.2.1 - 1 ∧ ¬ t = s) && decide (U t = q.2.2.1)) 60
  have l2 := fb_ct_le (fun t => decide (k_apN s t ≤ q.2.2.2.2.1 - 1 ∧ ¬ t = s) && decide (U t = q.2.1)) 60
  have p1 := fb_ct_pos (p := fun t => decide (k_apN s t ≤ q.2.2.2.2.1 - 1 ∧ ¬ t = s) && decide (U t = q.2.2.1)) (n := 60)
  have p2 := fb_ct_pos (p := fun t => decide (k_apN s t ≤ q.2.2.2.2.1 - 1 ∧ ¬ t = s) && decide (U t = q.2.1)) (n := 60)
  simp only [Bool.and_eq_true, decide_eq_true_eq] at p1 p2
  generalize fb_ct (fun t => decide (k_apN s t ≤ q.2.2.2.2.1 - 1 ∧ ¬ t = s) && decide (U t = q.2.2.1)) 60 = c1 at l1 p1 ⊢
  generalize fb_ct (fun t => decide (k_apN s t ≤ q.2.2.2.2.1 - 1 ∧ ¬ t = s) && decide (U t = q.2.1)) 60 = c2 at l2 p2 ⊢
  simp only [nI_add]
  have key : (if v = q.2.2.1 then (if v = q.2.1 then nI (0 + c1) else nI 0) + nI c2 else if v = q.2.1 then nI (0 + c1) else nI 0) = nI ((if v = q.2.1 then c1 else 0) + (if v = q.2.2.1 then c2 else 0)) := by
    by_cases ca : v = q.2.1
    · by_cases cb : v = q.2.2.1
      · simp only [if_pos ca, if_pos cb, nI_add, Nat.zero_add]
      · simp only [if_pos ca, if_neg cb, Nat.zero_add, Nat.add_zero]
    · by_cases cb : v = q.2.2.1
      · simp only [if_neg ca, if_pos cb, nI_add]
      · simp only [if_neg ca, if_neg cb]
  rw [show (if v = q.2.2.1 then (if v = q.2.1 then nI (0 + c1) else nI 0) + nI c2 else if v = q.2.1 then nI (0 + c1) else nI 0) = _ from key, nI_pos_iff (by split <;> split <;> omega)]
  constructor
  · intro h
    by_cases ca : v = q.2.1 ∧ 0 < c1
    · obtain ⟨t, a1, a2, a3⟩ := p1.mp ca.2
      exact ⟨t, a1, a2.2, a2.1, Or.inl ⟨ca.1, a3⟩⟩
    · by_cases cb : v = q.2.2.1 ∧ 0 < c2
      · obtain ⟨t, a1, a2, a3⟩ := p2.mp cb.2
        exact ⟨t, a1, a2.2, a2.1, Or.inr ⟨cb.1, a3⟩⟩
      · exfalso
        have h1 : (if v = q.2.1 then c1 else 0) = 0 := by
          by_cases e : v = q.2.1
          · rw [if_pos e]; exact Nat.eq_zero_of_not_pos (fun k => ca ⟨e, k⟩)
          · rw [if_neg e]
        have h2 : (if v = q.2.2.1 then c2 else 0) = 0 := by
          by_cases e : v = q.2.2.1
          · rw [if_pos e]; exact Nat.eq_zero_of_not_pos (fun k => cb ⟨e, k⟩)
          · rw [if_neg e]
        omega
  · rintro ⟨t, a1, a2, a3, ⟨e, a4⟩ | ⟨e, a4⟩⟩
    · have := p1.mpr ⟨t, a1, ⟨a3, a2⟩, a4⟩
      rw [if_pos e]; omega
    · have := p2.mpr ⟨t, a1, ⟨a3, a2⟩, a4⟩
      rw [if_pos e]; omega
theorem w_near_put {a b st s v : Nat} (hs : s < 60) (ha : a < 5) (hb : b < 5) (hUs : 5 ≤ U s) : w_near (fun t => if t = s then v else U t) a b st ↔ w_near U a b st ∨ ∃ t, t < 60 ∧ ¬ t = s ∧ k_apN s t ≤ st ∧ ((v = a ∧ U t = b) ∨ (v = b ∧ U t = a)) := by
  constructor
  · rintro ⟨x, y, hx, hy, e1, e2, e3, e4⟩
    simp only at e1 e2
    by_cases c1 : x = s
    · have c2 : ¬ y = s := fun h => e3 (h.trans c1.symm)
      rw [if_pos c1] at e1
      rw [if_neg c2] at e2
      exact Or.inr ⟨y, hy, c2, by rw [← c1]; exact e4, Or.inl ⟨e1, e2⟩⟩
    · rw [if_neg c1] at e1
      by_cases c2 : y = s
      · rw [if_pos c2] at e2
        exact Or.inr ⟨x, hx, c1, by rw [k_apN_c, ← c2]; exact e4, Or.inr ⟨e2, e1⟩⟩
      · rw [if_neg c2] at e2
        exact Or.inl ⟨x, y, hx, hy, e1, e2, e3, e4⟩
  · rintro (⟨x, y, hx, hy, e1, e2, e3, e4⟩ | ⟨t, ht, e1, e2, ⟨e3, e4⟩ | ⟨e3, e4⟩⟩)
    · exact ⟨x, y, hx, hy, by simp only; rw [if_neg (fun h => by subst h; omega)]; exact e1, by simp only; rw [if_neg (fun h => by subst h; omega)]; exact e2, e3, e4⟩
    · exact ⟨s, t, hs, ht, (if_pos rfl).trans e3, by simp only; rw [if_neg e1]; exact e4, e1, e2⟩
    · exact ⟨t, s, ht, hs, by simp only; rw [if_neg e1]; exact e4, (if_pos rfl).trans e3, fun h => e1 h.symm, by rw [k_apN_c]; exact e2⟩
theorem y_apb_near {a b st : Nat} (hO : aO k = nI a) (hT : aT k = nI b) (hS : aS k = nI st) (ha : a < 1000) (hb : b < 1000) (hst : st < 1000) (hst1 : 1 ≤ st) (hU : ∀ s, s < 60 → U s < 1000) : y_apb aO aT aS (fun s => nI (U s)) k = false ↔ w_near U a b (st - 1) := by
  unfold y_apb
  rw [← Bool.not_eq_true, k_all_iff]
  have key : ∀ s t, s < 60 → t < 60 → (y_apq aO aT aS (fun s => nI (U s)) k s t = false ↔ (U s = a ∧ U t = b ∧ ¬ t = s ∧ k_apN s t ≤ st - 1)) := fun s t hs ht => by
    have h1 := hU s hs; have h2 := hU t ht; have h3 := w_apN_lt hs ht
    unfold y_apq
    rw [hO, hT, hS, Bool.not_eq_false', decide_eq_true_eq, nI_eq (by omega) (by omega), nI_eq (by omega) (by omega), nI_leI (by omega) (by omega)]
    omega
  constructor
  · intro h
    obtain ⟨s, h⟩ := Classical.not_forall.mp h
    obtain ⟨hs, h⟩ := Classical.not_imp.mp h
    rw [k_all_iff] at h
    obtain ⟨t, h⟩ := Classical.not_forall.mp h
    obtain ⟨ht, h⟩ := Classical.not_imp.mp h
    have := (key s t hs ht).mp (Bool.eq_false_iff.mpr h)
    exact ⟨s, t, hs, ht, this⟩
  · rintro ⟨s, t, hs, ht, h⟩ hall
    have h1 := hall s hs
    rw [k_all_iff] at h1
    have h2 := h1 t ht
    rw [(key s t hs ht).mpr h] at h2
    exact absurd h2 (by decide)
theorem y_cnt_ct (u : Nat → Int32) (x : Int32) : ∀ n, y_cnt u x n = fb_ct (fun s => decide (u s = x)) n
  | 0 => rfl
  | n + 1 => by rw [y_cnt, fb_ct, y_cnt_ct u x n]; by_cases h : u n = x <;> simp [h]
theorem w_pcU (hf : w_fu F U) {v : Nat} (hv : v < 5) : k_pc (F v) = nI (fb_ct (fun s => decide (U s = v)) 60) := by
  rw [w_pc (w_fu_ok hf hv)]
  exact congrArg nI (fb_ct_cong (fun s hs => w_fu_b hf hv hs))
theorem w_cntU (hU : ∀ s, s < 60 → U s < 1000) {v : Nat} (hv : v < 1000) : y_cnt (fun s => nI (U s)) (nI v) 60 = fb_ct (fun s => decide (U s = v)) 60 := by
  rw [y_cnt_ct]
  refine fb_ct_cong (fun s hs => decide_eq_decide.mpr ?_)
  have := hU s hs
  exact nI_eq (by omega) (by omega)
end
