/-! SUMS, and what lines are worth -/
theorem k_sum_cong {f g : Nat → Int32} : ∀ {n : Nat}, (∀ i, i < n → f i = g i) → k_sum f n = k_sum g n
  | 0, _ => rfl
  | n + 1, h => by rw [k_sum, k_sum, k_sum_cong (fun i hi => h i (by omega)), h n (by omega)]
theorem k_sum_s (f : Nat → Int32) (n : Nat) : k_sum f (n + 1) = k_sum f n + f n := rfl
theorem k_sum_add (f g : Nat → Int32) : ∀ n, k_sum (fun i => f i + g i) n = k_sum f n + k_sum g n
  | 0 => show nI 0 = nI 0 + nI 0 by decide
  | n + 1 => by rw [k_sum, k_sum, k_sum, k_sum_add f g n]; ac_rfl
theorem k_sum_0 {f : Nat → Int32} : ∀ {n : Nat}, (∀ i, i < n → f i = 0) → k_sum f n = 0
  | 0, _ => nI_0
  | n + 1, h => by rw [k_sum, k_sum_0 (fun i hi => h i (by omega)), h n (by omega)]; decide
theorem k_sum_mul (c : Int32) (f : Nat → Int32) : ∀ n, k_sum (fun i => c * f i) n = c * k_sum f n
  | 0 => by rw [k_sum, k_sum, nI_0, Int32.mul_zero]
  | n + 1 => by rw [k_sum, k_sum, k_sum_mul c f n, Int32.mul_add]
theorem k_sum_ct (W : Int32) (p : Nat → Bool) : ∀ n, k_sum (fun i => if p i then W else nI 0) n = W * nI (fb_ct p n)
  | 0 => by rw [k_sum, fb_ct, nI_0, Int32.mul_zero]
  | n + 1 => by
    rw [k_sum, fb_ct, k_sum_ct W p n, ← nI_add, Int32.mul_add]
    cases p n with
    | true => simp only [if_true]; rw [show nI 1 = 1 by decide, Int32.mul_one]
    | false => simp [nI_0]
theorem k_sum_one {f g : Nat → Int32} {x : Nat} : ∀ {n : Nat}, x < n → (∀ i, i < n → ¬ i = x → f i = g i) → k_sum f n + g x = k_sum g n + f x
  | 0, hx, _ => absurd hx (by omega)
  | n + 1, hx, h => by
    rw [k_sum, k_sum]
    by_cases e : n = x
    · subst e
      rw [k_sum_cong (fun i hi => h i (by omega) (by omega))]
      ac_rfl
    · have ih := k_sum_one (f := f) (g := g) (n := n) (x := x) (by omega) (fun i hi => h i (by omega))
      rw [h n (by omega) e]
      calc k_sum f n + g n + g x = (k_sum f n + g x) + g n := by ac_rfl
        _ = (k_sum g n + f x) + g n := by rw [ih]
        _ = k_sum g n + g n + f x := by ac_rfl
theorem k_acc_sum (b : Int32) (g : Nat → Int32) : ∀ n, k_acc b g n = b + k_sum g n
  | 0 => by rw [k_acc, k_sum, nI_0, Int32.add_zero]
  | n + 1 => by rw [k_acc, k_sum, k_acc_sum b g n, Int32.add_assoc]
theorem w_dbl {e : Nat → Nat → Int32} (h0 : ∀ s, e s s = 0) : ∀ n, k_sum (fun s => k_sum (fun t => e s t + e t s) s) n = k_sum (fun s => k_sum (fun t => e s t) n) n
  | 0 => rfl
  | n + 1 => by
    rw [k_sum_s, w_dbl h0 n, k_sum_s (fun s => k_sum (fun t => e s t) (n + 1)) n]
    rw [show (fun s => k_sum (fun t => e s t) (n + 1)) = fun s => k_sum (fun t => e s t) n + e s n from rfl]
    rw [k_sum_add, k_sum_add]
    rw [k_sum_s, h0 n, Int32.add_zero]
    have e9 : k_sum (e n) n = k_sum (fun t => e n t) n := rfl
    rw [e9]
    ac_rfl
/-- alone and in pairs -/
def w_D (al : Nat → Int32) (pr : Nat → Nat → Int32) : Nat → Int32
  | 0 => nI 0
  | s + 1 => w_D al pr s + (al s + k_sum (pr s) s)
theorem w_D_cong {al al' : Nat → Int32} {pr pr' : Nat → Nat → Int32} : ∀ {n : Nat}, (∀ s, s < n → al s = al' s) → (∀ s t, s < n → t < s → pr s t = pr' s t) → w_D al pr n = w_D al' pr' n
  | 0, _, _ => rfl
  | n + 1, h, h2 => by rw [w_D, w_D, w_D_cong (fun s hs => h s (by omega)) (fun s t hs ht => h2 s t (by omega) ht), h n (by omega), k_sum_cong (fun t ht => h2 n t (by omega) ht)]
theorem w_D_split (al : Nat → Int32) (pr : Nat → Nat → Int32) : ∀ n, w_D al pr n = k_sum al n + k_sum (fun s => k_sum (pr s) s) n
  | 0 => show nI 0 = nI 0 + nI 0 by decide
  | n + 1 => by rw [w_D, w_D_split al pr n, k_sum, k_sum]; ac_rfl
theorem w_D_put {al al' : Nat → Int32} {pr pr' : Nat → Nat → Int32} {g : Nat → Int32} {x : Nat} (h1 : ∀ s, ¬ s = x → al' s = al s) (h2 : ∀ s t, ¬ s = x → ¬ t = x → pr' s t = pr s t) (h3 : al x = 0) (h4 : ∀ t, pr x t = 0) (h5 : ∀ s, pr s x = 0) (h6 : ∀ s, ¬ s = x → pr' s x = g s) (h7 : ∀ t, ¬ t = x → pr' x t = g t) (h8 : g x = 0) : ∀ n, w_D al' pr' n = w_D al pr n + (if x < n then al' x + k_sum g n else 0)
  | 0 => by rw [if_neg (by omega), Int32.add_zero]; rfl
  | n + 1 => by
    rw [w_D, w_D, w_D_put h1 h2 h3 h4 h5 h6 h7 h8 n]
    by_cases e : n = x
    · subst e
      rw [if_neg (by omega), if_pos (by omega), h3, k_sum_0 (fun t _ => h4 t), k_sum_s, h8, k_sum_cong (fun t ht => h7 t (by omega))]
      simp only [Int32.add_zero, Int32.zero_add]
    · by_cases hx : x < n
      · rw [if_pos hx, if_pos (by omega), h1 n e, k_sum_s]
        have k := k_sum_one (f := pr' n) (g := pr n) hx (fun t _ ht => h2 n t e ht)
        rw [h5 n, Int32.add_zero, h6 n e] at k
        rw [k]
        ac_rfl
      · rw [if_neg hx, if_neg (by omega), h1 n e, k_sum_cong (fun t ht => h2 n t e (by omega))]
        simp only [Int32.add_zero]
/-! the model's sums -/
theorem y_ad_D (aK aO aT aW aS so u : Nat → Int32) (k : Nat) : ∀ n, y_ad aK aO aT aW aS so u k n = w_D (fun s => y_al aK aO aW aS so k s (u s)) (fun s t => y_pr aK aO aT aW aS k s t (u s) (u t)) n
  | 0 => rfl
  | n + 1 => by rw [y_ad, w_D, k_acc_sum, y_ad_D aK aO aT aW aS so u k n, Int32.add_assoc]
theorem y_ad_cong {aK aO aT aW aS so u u' : Nat → Int32} {k n : Nat} (h : ∀ s, s < n → u s = u' s) : y_ad aK aO aT aW aS so u k n = y_ad aK aO aT aW aS so u' k n := by
  rw [y_ad_D, y_ad_D]
  exact w_D_cong (fun s hs => by rw [h s hs]) (fun s t hs ht => by rw [h s hs, h t (by omega)])
theorem k_apN_c (s t : Nat) : k_apN s t = k_apN t s := by unfold k_apN; omega
theorem y_pr_c (aK aO aT aW aS : Nat → Int32) (k s t : Nat) (x y : Int32) : y_pr aK aO aT aW aS k s t x y = y_pr aK aO aT aW aS k t s y x := by
  unfold y_pr
  rw [k_apN_c s t, Int32.add_comm]
/-- a line as the model has it -/
def w_no (aO aT : Nat → Int32) (k : Nat) (x : Int32) : Prop := ¬ aO k = x ∧ ¬ aT k = x
theorem y_pr_no {aK aO aT aW aS : Nat → Int32} {k s t : Nat} {x y : Int32} (h : (aK k = 0 → ¬ aO k = x ∧ ¬ aT k = x)) : y_pr aK aO aT aW aS k s t x y = 0 := by
  unfold y_pr
  by_cases h0 : aK k = 0
  · rw [if_pos h0, if_neg (h h0).1, if_neg (h h0).2]
    have e : nI 0 + (if aO k = y then nI 0 else nI 0) = 0 := by rw [ite_self]; decide
    rw [e]
    split
    · rfl
    · exact nI_0
  · rw [if_neg h0]; exact nI_0
theorem y_al_no {aK aO aW aS so : Nat → Int32} {k s : Nat} {x : Int32} (h : ¬ aO k = x) : y_al aK aO aW aS so k s x = 0 := by
  unfold y_al
  rw [if_neg h, ite_self]; exact nI_0
/-- a square that has no use gets one -/
theorem y_ad_put {aK aO aT aW aS so u : Nat → Int32} {k x : Nat} {v : Int32} (hx : x < 60) (hO : ¬ aO k = u x) (hT : aK k = 0 → ¬ aT k = u x) : y_ad aK aO aT aW aS so (upd u x v) k 60 = y_ad aK aO aT aW aS so u k 60 + (y_al aK aO aW aS so k x v + k_sum (fun t => y_pr aK aO aT aW aS k x t v (u t)) 60) := by
  have hU : ∀ s, ¬ s = x → upd u x v s = u s := fun s hs => by simp [upd, hs]
  have hX : upd u x v x = v := by simp [upd]
  have hn : ∀ s t y, y_pr aK aO aT aW aS k s t (u x) y = 0 := fun s t y => y_pr_no (fun h0 => ⟨hO, hT h0⟩)
  rw [y_ad_D, y_ad_D, w_D_put (al := fun s => y_al aK aO aW aS so k s (u s)) (pr := fun s t => y_pr aK aO aT aW aS k s t (u s) (u t)) (g := fun t => y_pr aK aO aT aW aS k x t v (u t)) (x := x) ?_ ?_ ?_ ?_ ?_ ?_ ?_ ?_ 60, if_pos hx, hX]
  · intro s hs; simp only [hU s hs]
  · intro s t hs ht; simp only [hU s hs, hU t ht]
  · exact y_al_no hO
  · intro t; exact hn x t _
  · intro s; rw [y_pr_c]; exact hn x s _
  · intro s hs; simp only [hU s hs, hX]; rw [y_pr_c]
  · intro t ht; simp only [hU t ht, hX]
  · rw [y_pr_c]; exact hn x x _
/-! what a line of the class is worth -/
theorem w_pc_ar {F : Nat → Int64} {U : Nat → Nat} (hf : w_fu F U) {s st b : Nat} (hs : s < 60) (hb : b < 5) : k_pc (k_ar s st &&& F b) = nI (fb_ct (fun t => decide (k_apN s t ≤ st ∧ ¬ t = s) && decide (U t = b)) 60) := by
  rw [w_pc (w_ok_and' (w_fu_ok hf hb))]
  refine congrArg nI (fb_ct_cong (fun t ht => ?_))
  rw [w_b_and, w_b_ar hs ht, w_fu_b hf hb ht]
theorem k_cp_sum {F : Nat → Int64} {U : Nat → Nat} (hf : w_fu F U) {a b st : Nat} (ha : a < 5) (hb : b < 5) (W : Int32) : ∀ n, n ≤ 60 → W * k_cp F a b st n = k_sum (fun s => k_sum (fun t => if decide (U s = a) && (decide (k_apN s t ≤ st ∧ ¬ t = s) && decide (U t = b)) then W else nI 0) 60) n
  | 0, _ => by rw [k_cp, k_sum, nI_0, Int32.mul_zero]
  | n + 1, hn => by
    rw [k_cp, k_sum, w_fu_has hf ha (by omega)]
    by_cases e : U n = a
    · rw [if_pos (decide_eq_true e), Int32.mul_add, k_cp_sum hf ha hb W n (by omega), w_pc_ar hf (by omega) hb, decide_eq_true e]
      simp only [Bool.true_and]
      rw [k_sum_ct]
    · rw [if_neg (by simpa using e), k_cp_sum hf ha hb W n (by omega), decide_eq_false e]
      simp only [Bool.false_and]
      rw [k_sum_0 (f := fun t => if false = true then W else nI 0) (fun i _ => by simp [nI_0]), Int32.add_zero]
theorem k_cs_sum {F : Nat → Int64} {U : Nat → Nat} (hf : w_fu F U) {so : Nat → Int32} {a : Nat} {lo : Int32} (ha : a < 5) (W : Int32) : ∀ n, n ≤ 60 → W * k_cs F so a lo n = k_sum (fun s => if decide (U s = a) && !(decide (so s < lo)) then W else nI 0) n
  | 0, _ => by rw [k_cs, k_sum, nI_0, Int32.mul_zero]
  | n + 1, hn => by
    rw [k_cs, k_sum, w_fu_has hf ha (by omega)]
    by_cases e : U n = a ∧ ¬ so n < lo
    · rw [if_pos (by simpa using e), Int32.mul_add, k_cs_sum hf ha W n (by omega), if_pos (by simpa using e), show nI 1 = 1 by decide, Int32.mul_one]
    · rw [if_neg (by simpa using e), k_cs_sum hf ha W n (by omega), if_neg (by simpa using e), nI_0, Int32.add_zero]
