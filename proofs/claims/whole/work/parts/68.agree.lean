/-! THE SEARCHES AGREE -/
theorem k_lc_ct {x : Int64} (h5 : fb_ct (w_b x) 60 ≤ 5) : ∀ n, n ≤ 60 → k_lc x n = fb_ct (w_b x) n
  | 0, _ => rfl
  | n + 1, hn => by
    rw [k_lc, fb_ct, k_lc_ct h5 n (by omega), w_has x (by omega)]
    cases hb : w_b x n with
    | true =>
      have h1 := fb_ct_mono (w_b x) hn
      rw [fb_ct, hb, if_pos rfl] at h1
      rw [if_pos ⟨rfl, by omega⟩, if_pos rfl]
    | false => rw [if_neg (fun q => absurd q.1 (by decide)), if_neg (by decide), Nat.add_zero]
theorem k_lq_P {x : Int64} (h5 : fb_ct (w_b x) 60 ≤ 5) (g : Nat → Nat) : ∀ n, n ≤ 60 → ∀ i, i < fb_ct (w_b x) n → k_lq x g n i < n ∧ w_b x (k_lq x g n i) = true ∧ fb_ct (w_b x) (k_lq x g n i) = i
  | 0, _, i, hi => absurd hi (by simp [fb_ct])
  | n + 1, hn, i, hi => by
    have ih := k_lq_P h5 g n (by omega) i
    rw [k_lq, k_lc_ct h5 n (by omega), w_has x (by omega)]
    rw [fb_ct] at hi
    cases hb : w_b x n with
    | true =>
      have h1 := fb_ct_mono (w_b x) hn
      rw [fb_ct, hb, if_pos rfl] at h1
      rw [if_pos ⟨rfl, by omega⟩]
      by_cases e : i = fb_ct (w_b x) n
      · simp only [if_pos e]
        exact ⟨by omega, hb, e.symm⟩
      · simp only [if_neg e]
        rw [hb, if_pos rfl] at hi
        obtain ⟨a1, a2, a3⟩ := ih (by omega)
        exact ⟨by omega, a2, a3⟩
    | false =>
      rw [if_neg (fun q => absurd q.1 (by decide))]
      rw [hb, if_neg (by decide), Nat.add_zero] at hi
      obtain ⟨a1, a2, a3⟩ := ih hi
      exact ⟨by omega, a2, a3⟩
def w_V (fz : Nat → Bool) (U D : Nat → Nat) : Nat → Nat := fun s => if s < 60 ∧ fz s = true then D (fb_ct fz s) else U s
theorem y_us_V (fz : Nat → Bool) (U D : Nat → Nat) : y_us fz (fun s => nI (U s)) D = fun s => nI (w_V fz U D s) := by
  funext s
  unfold y_us w_V
  split <;> rfl
theorem w_V_lt {fz : Nat → Bool} {U D : Nat → Nat} {b : Nat} (hU : ∀ s, s < 60 → U s < b) (hD : ∀ i, D i < b) : ∀ s, s < 60 → w_V fz U D s < b := fun s hs => by
  unfold w_V
  split
  · exact hD _
  · exact hU s hs
section
variable {q : Nat → kL} {m : Nat} {so : Nat → Int32} {aK aO aT aH aW aS aL : Nat → Int32} {fr : Int64} {f G : Nat → Int64} {U : Nat → Nat}
/-- all the ways' lands -/
theorem w_way (hL : w_LN q m aK aO aT aH aW aS aL) (hfr : w_ok fr) (h5 : fb_ct (w_b fr) 60 ≤ 5) (hf : w_fu f U) (hU : ∀ s, s < 60 → U s < 5) (g : Nat → Nat) {c : Nat} (hc : c < 4 ^ fb_ct (w_b fr) 60) : w_fu (w_F (k_lq fr g 60) (fb_ct (w_b fr) 60) (fb_ct (w_b fr) 60) (k_F0 f G fr) c) (w_V (w_b fr) U (y_dg (fb_ct (w_b fr) 60) c)) ∧ w_H (fun s => if w_b fr s then 9 else U s) (k_lq fr g 60) (fb_ct (w_b fr) 60) (fb_ct (w_b fr) 60) ∧ w_fu (k_F0 f G fr) (fun s => if w_b fr s then 9 else U s) := by
  have hP := k_lq_P h5 g 60 (Nat.le_refl _)
  have hF0 : w_fu (k_F0 f G fr) (fun s => if w_b fr s then 9 else U s) := w_fu_lift (w_fu_upto hf) fr (by omega)
  have hH : w_H (fun s => if w_b fr s then 9 else U s) (k_lq fr g 60) (fb_ct (w_b fr) 60) (fb_ct (w_b fr) 60) := by
    refine ⟨Nat.le_refl _, fun s hs => ?_, fun j hj => ?_⟩
    · show (if w_b fr s = true then 9 else U s) < 1000
      have := hU s hs
      split <;> omega
    · rw [Nat.sub_self, Nat.zero_add]
      obtain ⟨a1, a2, a3⟩ := hP j hj
      refine ⟨a1, ?_, fun i hi => ?_⟩
      · show 5 ≤ (if w_b fr (k_lq fr g 60 j) = true then 9 else U (k_lq fr g 60 j))
        rw [if_pos a2]; omega
      · rw [Nat.zero_add]
        intro e
        have := (hP i (by omega)).2.2
        rw [e, a3] at this
        omega
  refine ⟨w_F_fu _ hF0 hH hc (fun i hi => ?_) (fun s hs hn => ?_), hH, hF0⟩
  · rw [Nat.sub_self, Nat.zero_add]
    obtain ⟨a1, a2, a3⟩ := hP i hi
    unfold w_V
    rw [if_pos ⟨a1, a2⟩, a3]
  · unfold w_V
    have hns : ¬ w_b fr s = true := fun hb => by
      have h1 := y_fb_lt hs hb
      obtain ⟨a1, a2, a3⟩ := hP _ h1
      refine hn _ h1 ?_
      rw [Nat.sub_self, Nat.zero_add]
      exact fb_ct_kth_one hb a2 a3.symm
    rw [if_neg (fun h => hns h.2)]
    simp [hns]
/-- do all laws hold but x -/
def w_hx (q : Nat → kL) (m : Nat) (aO aT aS aL : Nat → Int32) (u : Nat → Int32) (x : Int32) : Bool := k_all (fun k => decide (nI k = x) || y_hb (q k).1 aO aT aS aL u k) m
theorem w_hx_none (hm : m ≤ 14) {u : Nat → Int32} : w_hx q m aO aT aS aL u (-nI 1) = true ↔ ∀ i, i < m → y_hb (q i).1 aO aT aS aL u i = true := by
  unfold w_hx
  rw [k_all_iff]
  have key : ∀ i, i < 14 → ¬ nI i = -nI 1 := by decide +kernel
  constructor
  · intro h i hi
    have := h i hi
    rw [decide_eq_false (key i (by omega)), Bool.false_or] at this
    exact this
  · intro h i hi
    rw [h i hi, Bool.or_true]
theorem w_hx_one (hm : m ≤ 14) {u : Nat → Int32} {a : Nat} (ha : a < m) : w_hx q m aO aT aS aL u (nI a) = true ↔ ∀ i, i < m → ¬ i = a → y_hb (q i).1 aO aT aS aL u i = true := by
  unfold w_hx
  rw [k_all_iff]
  constructor
  · intro h i hi hia
    have := h i hi
    rw [decide_eq_false (fun e => hia ((nI_eq (by omega) (by omega)).mp e)), Bool.false_or] at this
    exact this
  · intro h i hi
    by_cases e : i = a
    · rw [e, decide_eq_true rfl, Bool.true_or]
    · rw [h i hi e, Bool.or_true]
theorem w_max {x y : Int32} : (¬ x ≤ y) ↔ y < x := Int32.not_le
/-- one way, judged by both -/
def w_R1 (fz : Nat → Bool) (U : Nat → Nat) (S : kS) (Y : Bool × Int32 × (Nat → Nat)) : Prop := S.1 = Y.1 ∧ (Y.1 = true → S.2.1 = Y.2.1 ∧ w_fu S.2.2.1 (w_V fz U Y.2.2)) ∧ ∀ i, Y.2.2 i < 5
def w_R2 (S : kS) (a : Nat) (Y : Bool × Int32 × (Nat → Nat)) : Prop := (Y.1 = false → S.1 = false ∧ S.2.2.2 a = -1000000000) ∧ (Y.1 = true → Y.2.1 = if S.1 = true then (if S.2.1 < S.2.2.2 a then S.2.2.2 a else S.2.1) else S.2.2.2 a)
theorem w_R1_s {fz : Nat → Bool} {U D : Nat → Nat} {S : kS} {Y : Bool × Int32 × (Nat → Nat)} {F : Nat → Int64} {wo : Int32} {u : Nat → Int32} (hm : m ≤ 14) (hF : w_fu F (w_V fz U D)) (hD : ∀ i, D i < 5) (h : w_R1 fz U S Y) : w_R1 fz U (k_jd F wo (k_bits (fun i => !(y_hb (q i).1 aO aT aS aL u i)) m) S) (if (Y.1 = false ∨ ¬ wo ≤ Y.2.1) ∧ w_hx q m aO aT aS aL u (-nI 1) = true then (true, wo, D) else Y) := by
  obtain ⟨h1, h2, h3⟩ := h
  have hz : k_bits (fun i => !(y_hb (q i).1 aO aT aS aL u i)) m = 0 ↔ w_hx q m aO aT aS aL u (-nI 1) = true := by
    rw [k_bits_0 hm, w_hx_none hm]
    exact forall_congr' (fun i => forall_congr' (fun _ => by simp))
  unfold k_jd
  by_cases hc : (Y.1 = false ∨ ¬ wo ≤ Y.2.1) ∧ w_hx q m aO aT aS aL u (-nI 1) = true
  · have hs : k_bits (fun i => !(y_hb (q i).1 aO aT aS aL u i)) m = 0 ∧ (S.1 = false ∨ ¬ wo ≤ S.2.1) := by
      refine ⟨hz.mpr hc.2, ?_⟩
      rw [h1]
      rcases hc.1 with h | h
      · exact Or.inl h
      · cases hy : Y.1 with
        | false => exact Or.inl rfl
        | true => rw [(h2 hy).1]; exact Or.inr h
    rw [if_pos hc, if_pos hs]
    exact ⟨rfl, fun _ => ⟨rfl, w_fu_upto hF⟩, hD⟩
  · rw [if_neg hc, if_neg]
    · exact ⟨h1, h2, h3⟩
    · rintro ⟨a1, a2⟩
      refine hc ⟨?_, hz.mp a1⟩
      rw [h1] at a2
      rcases a2 with h | h
      · exact Or.inl h
      · cases hy : Y.1 with
        | false => exact Or.inl rfl
        | true => rw [(h2 hy).1] at h; exact Or.inr h
theorem w_abs {s1 y1 z o : Bool} {s2 w y2 wo : Int32} (hmin : ¬ wo < -1000000000) (hzo : ¬ (z = true ∧ o = true)) (h1 : y1 = false → s1 = false ∧ w = -1000000000) (h2 : y1 = true → y2 = if s1 = true then (if s2 < w then w else s2) else w) {s1' y1' : Bool} {s2' w' y2' : Int32} (e1 : s1' = if z = true ∧ (s1 = false ∨ ¬ wo ≤ s2) then true else s1) (e2 : s2' = if z = true ∧ (s1 = false ∨ ¬ wo ≤ s2) then wo else s2) (e3 : w' = if o = true then (if w < wo then wo else w) else w) (e4 : y1' = if (y1 = false ∨ ¬ wo ≤ y2) ∧ (z = true ∨ o = true) then true else y1) (e5 : y2' = if (y1 = false ∨ ¬ wo ≤ y2) ∧ (z = true ∨ o = true) then wo else y2) : (y1' = false → s1' = false ∧ w' = -1000000000) ∧ (y1' = true → y2' = if s1' = true then (if s2' < w' then w' else s2') else w') := by
  cases y1 with
  | false =>
    obtain ⟨rfl, rfl⟩ := h1 rfl
    cases z with
    | false =>
      cases o with
      | false => simp at e1 e2 e3 e4 e5; subst e1 e3 e4; simp
      | true =>
        simp at e1 e2 e3 e4 e5
        subst e1 e3 e4 e5
        simp
        exact fun h => Int32.le_antisymm h (Int32.not_lt.mp hmin)
    | true =>
      cases o with
      | true => exact absurd ⟨rfl, rfl⟩ hzo
      | false =>
        simp at e1 e2 e3 e4 e5
        subst e1 e2 e3 e4 e5
        simp [hmin]
  | true =>
    have h2 := h2 rfl
    cases z with
    | false =>
      cases o with
      | false =>
        simp at e1 e2 e3 e4 e5
        subst e1 e2 e3 e4 e5
        simp [h2]
      | true =>
        simp at e1 e2 e3 e4 e5
        subst e1 e2 e3 e4 e5
        simp only [Bool.true_eq_false, false_implies, true_and, forall_const]
        subst h2
        cases s1' <;> simp only [Int32.lt_iff_toInt_lt, Int32.le_iff_toInt_le, ← Int32.toInt_inj, apply_ite Int32.toInt, if_true, Bool.false_eq_true, if_false, Int.not_le] <;> (repeat' split) <;> omega
    | true =>
      cases o with
      | true => exact absurd ⟨rfl, rfl⟩ hzo
      | false =>
        simp at e3 e4 e5
        subst e1 e2 e3 e4 e5
        simp only [Bool.true_eq_false, false_implies, true_and, forall_const]
        subst h2
        cases s1 <;> simp only [Int32.lt_iff_toInt_lt, Int32.le_iff_toInt_le, ← Int32.toInt_inj, apply_ite Int32.toInt, if_true, Bool.false_eq_true, Bool.true_eq_false, if_false, Int.not_le, true_or, false_or, ite_self, true_and] <;> (repeat' split) <;> (try omega) <;> simp_all <;> omega
theorem w_R2_s {S : kS} {Y : Bool × Int32 × (Nat → Nat)} {F : Nat → Int64} {wo : Int32} {u : Nat → Int32} {D : Nat → Nat} {a : Nat} (hm : m ≤ 14) (ha : a < m) (hmin : ¬ wo < -1000000000) (h : w_R2 S a Y) : w_R2 (k_jd F wo (k_bits (fun i => !(y_hb (q i).1 aO aT aS aL u i)) m) S) a (if (Y.1 = false ∨ ¬ wo ≤ Y.2.1) ∧ w_hx q m aO aT aS aL u (nI a) = true then (true, wo, D) else Y) := by
  obtain ⟨h1, h2⟩ := h
  have hz : k_bits (fun i => !(y_hb (q i).1 aO aT aS aL u i)) m = 0 ↔ ∀ i, i < m → y_hb (q i).1 aO aT aS aL u i = true := by
    rw [k_bits_0 hm]
    exact forall_congr' (fun i => forall_congr' (fun _ => by simp))
  have ho : k_bits (fun i => !(y_hb (q i).1 aO aT aS aL u i)) m = nI 1 <<< (nI a &&& 31) ↔ (y_hb (q a).1 aO aT aS aL u a = false ∧ ∀ i, i < m → ¬ i = a → y_hb (q i).1 aO aT aS aL u i = true) := by
    rw [k_bits_1 hm (by omega)]
    constructor
    · rintro ⟨-, k⟩
      refine ⟨?_, fun i hi e => ?_⟩
      · have := k a ha
        simpa using this
      · have := k i hi
        simpa [e] using this
    · rintro ⟨k1, k2⟩
      refine ⟨ha, fun i hi => ?_⟩
      by_cases e : i = a
      · subst e; simp [k1]
      · simp [e, k2 i hi e]
  have hx := w_hx_one (q := q) (aO := aO) (aT := aT) (aS := aS) (aL := aL) (u := u) hm ha
  have hW : (k_jd F wo (k_bits (fun i => !(y_hb (q i).1 aO aT aS aL u i)) m) S).2.2.2 a = if k_bits (fun i => !(y_hb (q i).1 aO aT aS aL u i)) m = nI 1 <<< (nI a &&& 31) then (if S.2.2.2 a < wo then wo else S.2.2.2 a) else S.2.2.2 a := by
    have e : (k_jd F wo (k_bits (fun i => !(y_hb (q i).1 aO aT aS aL u i)) m) S).2.2.2 = k_jw wo (k_bits (fun i => !(y_hb (q i).1 aO aT aS aL u i)) m) S.2.2.2 14 := by unfold k_jd; split <;> rfl
    rw [e, k_jw_v]
    by_cases hb : k_bits (fun i => !(y_hb (q i).1 aO aT aS aL u i)) m = nI 1 <<< (nI a &&& 31)
    · rw [if_pos ⟨by omega, hb⟩, if_pos hb]
    · rw [if_neg (fun q => hb q.2), if_neg hb]
  have hX : ((k_jd F wo (k_bits (fun i => !(y_hb (q i).1 aO aT aS aL u i)) m) S).1, (k_jd F wo (k_bits (fun i => !(y_hb (q i).1 aO aT aS aL u i)) m) S).2.1) = if k_bits (fun i => !(y_hb (q i).1 aO aT aS aL u i)) m = 0 ∧ (S.1 = false ∨ ¬ wo ≤ S.2.1) then (true, wo) else (S.1, S.2.1) := by unfold k_jd; split <;> rfl
  generalize k_jd F wo (k_bits (fun i => !(y_hb (q i).1 aO aT aS aL u i)) m) S = S' at hW hX
  have hX1 := congrArg Prod.fst hX
  have hX2 := congrArg Prod.snd hX
  simp only at hX1 hX2
  have hor : w_hx q m aO aT aS aL u (nI a) = true ↔ (decide (k_bits (fun i => !(y_hb (q i).1 aO aT aS aL u i)) m = 0) = true ∨ decide (k_bits (fun i => !(y_hb (q i).1 aO aT aS aL u i)) m = nI 1 <<< (nI a &&& 31)) = true) := by
    rw [decide_eq_true_eq, decide_eq_true_eq, hz, ho, hx]
    constructor
    · intro hall
      cases hya : y_hb (q a).1 aO aT aS aL u a with
      | false => exact Or.inr ⟨rfl, hall⟩
      | true =>
        refine Or.inl (fun i hi => ?_)
        by_cases e : i = a
        · rw [e]; exact hya
        · exact hall i hi e
    · rintro (h | h)
      · exact fun i hi _ => h i hi
      · exact h.2
  unfold w_R2
  refine w_abs (z := decide (k_bits (fun i => !(y_hb (q i).1 aO aT aS aL u i)) m = 0)) (o := decide (k_bits (fun i => !(y_hb (q i).1 aO aT aS aL u i)) m = nI 1 <<< (nI a &&& 31))) (wo := wo) hmin (fun h => ?_) h1 h2 ?_ ?_ ?_ ?_ ?_
  · rw [decide_eq_true_eq, decide_eq_true_eq] at h
    have := hz.mp h.1 a ha
    rw [(ho.mp h.2).1] at this
    exact absurd this (by decide)
  · rw [hX1]
    by_cases hc : k_bits (fun i => !(y_hb (q i).1 aO aT aS aL u i)) m = 0 ∧ (S.1 = false ∨ ¬ wo ≤ S.2.1)
    · rw [if_pos hc, if_pos ⟨decide_eq_true hc.1, hc.2⟩]
    · rw [if_neg hc, if_neg (fun h => hc ⟨of_decide_eq_true h.1, h.2⟩)]
  · rw [hX2]
    by_cases hc : k_bits (fun i => !(y_hb (q i).1 aO aT aS aL u i)) m = 0 ∧ (S.1 = false ∨ ¬ wo ≤ S.2.1)
    · rw [if_pos hc, if_pos ⟨decide_eq_true hc.1, hc.2⟩]
    · rw [if_neg hc, if_neg (fun h => hc ⟨of_decide_eq_true h.1, h.2⟩)]
  · rw [hW]
    by_cases hc : k_bits (fun i => !(y_hb (q i).1 aO aT aS aL u i)) m = nI 1 <<< (nI a &&& 31)
    · rw [if_pos hc, if_pos (decide_eq_true hc)]
    · rw [if_neg hc, if_neg (by simpa using hc)]
  · by_cases hc : (Y.1 = false ∨ ¬ wo ≤ Y.2.1) ∧ w_hx q m aO aT aS aL u (nI a) = true
    · rw [if_pos hc, if_pos ⟨hc.1, hor.mp hc.2⟩]
    · rw [if_neg hc, if_neg (fun h => hc ⟨h.1, hor.mpr h.2⟩)]
  · by_cases hc : (Y.1 = false ∨ ¬ wo ≤ Y.2.1) ∧ w_hx q m aO aT aS aL u (nI a) = true
    · rw [if_pos hc, if_pos ⟨hc.1, hor.mp hc.2⟩]
    · rw [if_neg hc, if_neg (fun h => hc ⟨h.1, hor.mpr h.2⟩)]
end
