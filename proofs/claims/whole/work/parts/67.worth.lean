/-! THE SEARCH of the model: what a way is worth -/
theorem k_sum_swap (h : Nat → Nat → Int32) (n : Nat) : ∀ m, k_sum (fun k => k_sum (fun j => h k j) n) m = k_sum (fun j => k_sum (fun k => h k j) m) n
  | 0 => by
    rw [k_sum_0 (f := fun j => k_sum (fun k => h k j) 0) (fun j _ => nI_0)]
    exact nI_0
  | m + 1 => by
    rw [k_sum_s, k_sum_swap h n m, ← k_sum_add]
    rfl
/-- the free squares from the i-th on have no use yet -/
def w_u9 (fz : Nat → Bool) (U : Nat → Nat) (D : Nat → Nat) (i : Nat) : Nat → Nat := fun s => if s < 60 ∧ fz s = true then (if fb_ct fz s < i then D (fb_ct fz s) else 9) else U s
section
variable {fz : Nat → Bool} {U D P : Nat → Nat} {aK aO aT aH aW aS aL so : Nat → Int32} {q : Nat → kL} {m n : Nat}
theorem w_no9 (hL : w_LN q m aK aO aT aH aW aS aL) {k : Nat} (hk : k < m) : (¬ aO k = nI 9) ∧ (aK k = 0 → ¬ aT k = nI 9) := by
  obtain ⟨⟨hq, -⟩, hr⟩ := hL.2 k hk
  have h2 := hq.2.1
  have h3 := hq.2.2.1
  refine ⟨fun h => ?_, fun h0 h => ?_⟩
  · rw [hr.2.1] at h
    have := (nI_eq (by omega) (by omega)).mp h
    omega
  · have hk := (w_kind hr hq (j := 0) (by omega)).mp (h0.trans nI_0.symm)
    rw [(hr.2.2.1 hk).1] at h
    have := (nI_eq (by omega) (by omega)).mp h
    omega
theorem w_pr9 (hL : w_LN q m aK aO aT aH aW aS aL) {k : Nat} (hk : k < m) (s t : Nat) (x : Int32) : y_pr aK aO aT aW aS k s t (nI 9) x = 0 ∧ y_pr aK aO aT aW aS k s t x (nI 9) = 0 := by
  have h := w_no9 hL hk
  have h1 : ∀ s t x, y_pr aK aO aT aW aS k s t (nI 9) x = 0 := fun s t x => y_pr_no (fun h0 => ⟨h.1, h.2 h0⟩)
  exact ⟨h1 s t x, by rw [y_pr_c]; exact h1 t s x⟩
theorem y_oi_sum (hL : w_LN q m aK aO aT aH aW aS aL) {k s : Nat} (hk : k < m) (hs : fz s = false) (hs2 : s ≤ 60) (c : Int32) : ∀ t, t ≤ 60 → y_oi aK aO aT aW aS fz (fun s => nI (U s)) c k s t = c + k_sum (fun t => y_pr aK aO aT aW aS k s t (nI (w_u9 fz U D 0 s)) (nI (w_u9 fz U D 0 t))) t
  | 0, _ => by rw [y_oi, k_sum, nI_0, Int32.add_zero]
  | t + 1, ht => by
    rw [y_oi, k_sum, y_oi_sum hL hk hs hs2 c t (by omega)]
    have e1 : w_u9 fz U D 0 s = U s := by unfold w_u9; rw [if_neg (fun h => by rw [hs] at h; exact absurd h.2 (by decide))]
    cases hf : fz t with
    | true =>
      have e2 : w_u9 fz U D 0 t = 9 := by unfold w_u9; rw [if_pos ⟨by omega, hf⟩, if_neg (by omega)]
      rw [if_pos rfl, e2, (w_pr9 hL hk s t _).2, Int32.add_zero]
    | false =>
      have e2 : w_u9 fz U D 0 t = U t := by unfold w_u9; rw [if_neg (fun h => by rw [hf] at h; exact absurd h.2 (by decide))]
      rw [if_neg (by decide), e1, e2, Int32.add_assoc]
theorem y_os_sum (hL : w_LN q m aK aO aT aH aW aS aL) {k : Nat} (hk : k < m) (c : Int32) : ∀ s, s ≤ 60 → y_os aK aO aT aW aS so fz (fun s => nI (U s)) c k s = c + y_ad aK aO aT aW aS so (fun s => nI (w_u9 fz U D 0 s)) k s
  | 0, _ => by rw [y_os, y_ad, nI_0, Int32.add_zero]
  | s + 1, hs => by
    rw [y_os, y_ad, k_acc_sum, y_os_sum hL hk c s (by omega)]
    cases hf : fz s with
    | true =>
      have e2 : w_u9 fz U D 0 s = 9 := by unfold w_u9; rw [if_pos ⟨by omega, hf⟩, if_neg (by omega)]
      rw [if_pos rfl, e2, y_al_no (w_no9 hL hk).1, k_sum_0 (fun t _ => (w_pr9 hL hk s t _).1), Int32.add_zero, Int32.add_zero]
    | false =>
      have e2 : w_u9 fz U D 0 s = U s := by unfold w_u9; rw [if_neg (fun h => by rw [hf] at h; exact absurd h.2 (by decide))]
      rw [if_neg (by decide), y_oi_sum (D := D) hL hk hf (by omega) _ s (by omega), e2]
      ac_rfl
theorem y_ot_sum (hL : w_LN q m aK aO aT aH aW aS aL) : ∀ k, k ≤ m → y_ot aK aO aT aW aS so fz (fun s => nI (U s)) k = k_sum (fun k => y_ad aK aO aT aW aS so (fun s => nI (w_u9 fz U D 0 s)) k 60) k
  | 0, _ => rfl
  | k + 1, hk => by rw [y_ot, k_sum, y_ot_sum hL k (by omega), y_os_sum (D := D) hL (by omega) _ 60 (by omega)]
/-- P has the free squares in their order -/
def w_P (fz : Nat → Bool) (P : Nat → Nat) (n : Nat) : Prop := ∀ i, i < n → P i < 60 ∧ fz (P i) = true ∧ fb_ct fz (P i) = i
theorem w_u9_s (hP : w_P fz P n) {i : Nat} (hi : i < n) : (fun s => nI (w_u9 fz U D (i + 1) s)) = upd (fun s => nI (w_u9 fz U D i s)) (P i) (nI (D i)) := by
  obtain ⟨h1, h2, h3⟩ := hP i hi
  funext s
  by_cases e : s = P i
  · subst e
    simp only [upd, if_true]
    unfold w_u9
    rw [if_pos ⟨h1, h2⟩, h3, if_pos (by omega)]
  · have : upd (fun s => nI (w_u9 fz U D i s)) (P i) (nI (D i)) s = nI (w_u9 fz U D i s) := by simp [upd, e]
    rw [this]
    unfold w_u9
    by_cases hc : s < 60 ∧ fz s = true
    · rw [if_pos hc, if_pos hc]
      by_cases h4 : fb_ct fz s < i
      · rw [if_pos h4, if_pos (by omega)]
      · rw [if_neg h4, if_neg]
        intro h5
        exact e (fb_ct_kth_one hc.2 h2 (by omega))
    · rw [if_neg hc, if_neg hc]
theorem w_u9_P (hP : w_P fz P n) {i : Nat} (hi : i < n) : w_u9 fz U D i (P i) = 9 := by
  obtain ⟨h1, h2, h3⟩ := hP i hi
  unfold w_u9
  rw [if_pos ⟨h1, h2⟩, h3, if_neg (by omega)]
/-- the pairs of a square with those that are there -/
theorem w_prs (hL : w_LN q m aK aO aT aH aW aS aL) (hP : w_P fz P n) {k x : Nat} (hk : k < m) (v : Int32) : ∀ i, i ≤ n → k_sum (fun t => y_pr aK aO aT aW aS k x t v (nI (w_u9 fz U D i t))) 60 = k_sum (fun t => y_pr aK aO aT aW aS k x t v (nI (w_u9 fz U D 0 t))) 60 + k_sum (fun j => y_pr aK aO aT aW aS k x (P j) v (nI (D j))) i
  | 0, _ => by rw [show k_sum (fun j => y_pr aK aO aT aW aS k x (P j) v (nI (D j))) 0 = nI 0 from rfl, nI_0, Int32.add_zero]
  | i + 1, hi => by
    have ih := w_prs hL hP (x := x) hk v i (by omega)
    obtain ⟨h1, h2, h3⟩ := hP i (by omega)
    have e := w_u9_s (U := U) (D := D) hP (show i < n by omega)
    have k1 := k_sum_one (f := fun t => y_pr aK aO aT aW aS k x t v (nI (w_u9 fz U D (i + 1) t))) (g := fun t => y_pr aK aO aT aW aS k x t v (nI (w_u9 fz U D i t))) (x := P i) (n := 60) h1 (fun t _ ht => by
      have := congrFun e t
      rw [this]
      simp [upd, ht])
    rw [w_u9_P hP (by omega), (w_pr9 hL hk x (P i) v).2, Int32.add_zero] at k1
    have e2 := congrFun e (P i)
    rw [k1, e2, ih, k_sum_s (fun j => y_pr aK aO aT aW aS k x (P j) v (nI (D j))) i]
    simp only [upd, if_true]
    ac_rfl
theorem y_s1_sum (hL : w_LN q m aK aO aT aH aW aS aL) {k p v : Nat} (hk : k < m) (c : Int32) : ∀ t, t ≤ 60 → y_s1 aK aO aT aW aS fz (fun s => nI (U s)) c k p v t = c + k_sum (fun t => y_pr aK aO aT aW aS k p t (nI v) (nI (w_u9 fz U D 0 t))) t
  | 0, _ => by rw [y_s1, k_sum, nI_0, Int32.add_zero]
  | t + 1, ht => by
    rw [y_s1, k_sum, y_s1_sum hL hk c t (by omega)]
    cases hf : fz t with
    | true =>
      have e2 : w_u9 fz U D 0 t = 9 := by unfold w_u9; rw [if_pos ⟨by omega, hf⟩, if_neg (by omega)]
      rw [if_pos rfl, e2, (w_pr9 hL hk p t _).2, Int32.add_zero]
    | false =>
      have e2 : w_u9 fz U D 0 t = U t := by unfold w_u9; rw [if_neg (fun h => by rw [hf] at h; exact absurd h.2 (by decide))]
      rw [if_neg (by decide), e2, Int32.add_assoc]
theorem y_s0_sum (hL : w_LN q m aK aO aT aH aW aS aL) {p v : Nat} : ∀ k, k ≤ m → y_s0 aK aO aT aW aS so fz (fun s => nI (U s)) p v k = k_sum (fun k => y_al aK aO aW aS so k p (nI v) + k_sum (fun t => y_pr aK aO aT aW aS k p t (nI v) (nI (w_u9 fz U D 0 t))) 60) k
  | 0, _ => rfl
  | k + 1, hk => by rw [y_s0, k_sum, y_s1_sum (D := D) hL (by omega) _ 60 (by omega), y_s0_sum hL k (by omega), Int32.add_assoc]
theorem y_b0_sum (p r v w : Nat) : ∀ k, y_b0 aK aO aT aW aS p r v w k = k_sum (fun k => y_pr aK aO aT aW aS k p r (nI v) (nI w)) k
  | 0 => rfl
  | k + 1 => by rw [y_b0, k_sum, y_b0_sum p r v w k]
theorem y_sm_sum (hL : w_LN q m aK aO aT aH aW aS aL) (hP : w_P fz P n) : ∀ i, i ≤ n → y_sm (y_SF aK aO aT aW aS so m fz (fun s => nI (U s)) P) (y_BF aK aO aT aW aS m P) (y_ot aK aO aT aW aS so fz (fun s => nI (U s)) m) D i = k_sum (fun k => y_ad aK aO aT aW aS so (fun s => nI (w_u9 fz U D i s)) k 60) m
  | 0, _ => by rw [y_sm, y_ot_sum (D := D) hL m (Nat.le_refl _)]
  | i + 1, hi => by
    obtain ⟨h1, h2, h3⟩ := hP i (by omega)
    rw [y_sm, k_acc_sum, y_sm_sum hL hP i (by omega)]
    unfold y_SF y_BF
    rw [y_s0_sum (D := D) hL m (Nat.le_refl _)]
    rw [show (fun j => y_b0 aK aO aT aW aS (P i) (P j) (D i) (D j) m) = fun j => k_sum (fun k => y_pr aK aO aT aW aS k (P i) (P j) (nI (D i)) (nI (D j))) m from funext (fun j => y_b0_sum _ _ _ _ m)]
    rw [← k_sum_swap (fun k j => y_pr aK aO aT aW aS k (P i) (P j) (nI (D i)) (nI (D j))) i m, ← k_sum_add, ← k_sum_add]
    refine k_sum_cong (fun k hk => ?_)
    have hn := w_no9 hL hk
    rw [w_u9_s hP (by omega), y_ad_put h1 (by rw [w_u9_P hP (by omega)]; exact hn.1) (fun h0 => by rw [w_u9_P hP (by omega)]; exact hn.2 h0), w_prs hL hP hk _ i (by omega)]
    ac_rfl
theorem w_sc (hL : w_LN q m aK aO aT aH aW aS aL) (hP : w_P fz P n) (hn : fb_ct fz 60 = n) : y_sc aK aO aT aW aS so m fz (fun s => nI (U s)) P n D = k_sum (fun k => y_ad aK aO aT aW aS so (y_us fz (fun s => nI (U s)) D) k 60) m := by
  unfold y_sc
  rw [y_sm_sum hL hP n (Nat.le_refl _)]
  refine k_sum_cong (fun k _ => congrArg (fun u => y_ad aK aO aT aW aS so u k 60) ?_)
  funext s
  unfold w_u9 y_us
  by_cases hc : s < 60 ∧ fz s = true
  · rw [if_pos hc, if_pos hc, if_pos (by rw [← hn]; exact y_fb_lt hc.1 hc.2)]
  · rw [if_neg hc, if_neg hc]
theorem w_sc_b (hL : w_LN q m aK aO aT aH aW aS aL) (hP : w_P fz P n) (hn : fb_ct fz 60 = n) : ¬ y_sc aK aO aT aW aS so m fz (fun s => nI (U s)) P n D < -1000000000 := by
  rw [w_sc hL hP hn]
  have hm := hL.1
  have h := w_bd_sum (g := fun k => y_ad aK aO aT aW aS so (y_us fz (fun s => nI (U s)) D) k 60) m (fun i hi => w_bd_ad (hL.2 i hi).1.1.1 (hL.2 i hi).1.2 (hL.2 i hi).2 60 (Nat.le_refl _)) (by omega)
  rw [Int32.lt_iff_toInt_lt, show (-1000000000 : Int32).toInt = -1000000000 by decide]
  have := h.1
  omega
end
