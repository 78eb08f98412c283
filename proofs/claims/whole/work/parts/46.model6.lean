/-! THE MODEL: joined, holds, broken (written by wip/gen_model6.py) -/
/-- what is reached from a over squares of op within k steps -/
def y_rk (op : Nat → Bool) (a : Nat) : Nat → Nat → Bool
  | 0, s => decide (s = a)
  | k + 1, s => y_rk op a k s || (op s && k_any (fun w => (k_bd s w).elim false (y_rk op a k)) 4)
def y_nb (q : Nat → Bool) (s : Nat) (w : Nat) : Bool := k_any (fun w => (k_bd s w).elim false q) w
theorem k_any_cong {p q : Nat → Bool} : ∀ {n : Nat}, (∀ i, i < n → p i = q i) → k_any p n = k_any q n := by
  intro n
  induction n with
  | zero => intro _; rfl
  | succ n ih => intro h; rw [k_any, k_any, ih (fun i hi => h i (by omega)), h n (by omega)]
theorem y_nb_cong {p q : Nat → Bool} {s : Nat} (hs : s < 60) (h : ∀ t, t < 60 → p t = q t) (w : Nat) : y_nb p s w = y_nb q s w := by
  refine k_any_cong (fun i hi => ?_)
  cases hb : k_bd s i with
  | none => rfl
  | some t => exact h t (k_bd_lt hs hb)
theorem y_rk_s (op : Nat → Bool) (a k s : Nat) : y_rk op a (k + 1) s = (y_rk op a k s || (op s && y_nb (y_rk op a k) s 4)) := rfl
theorem y_rk_mono {op : Nat → Bool} {a s k : Nat} (h : y_rk op a k s = true) : ∀ m, y_rk op a (k + m) s = true := by
  intro m
  induction m with
  | zero => exact h
  | succ m ih => rw [← Nat.add_assoc, y_rk_s, ih, Bool.true_or]
theorem y_rk_stab {op : Nat → Bool} {a j : Nat} (h : ∀ s, s < 60 → y_rk op a (j + 1) s = y_rk op a j s) : ∀ m s, s < 60 → y_rk op a (j + m) s = y_rk op a j s := by
  intro m
  induction m with
  | zero => intro s _; rfl
  | succ m ih =>
    intro s hs
    rw [← Nat.add_assoc, y_rk_s, ih s hs, y_nb_cong hs ih, ← y_rk_s, h s hs]
theorem y_rk_grow {op : Nat → Bool} {a : Nat} (ha : a < 60) : ∀ k, (∃ j, j < k ∧ ∀ s, s < 60 → y_rk op a (j + 1) s = y_rk op a j s) ∨ k + 1 ≤ fb_ct (y_rk op a k) 60 := by
  intro k
  induction k with
  | zero => exact Or.inr (fb_ct_pos.mpr ⟨a, ha, by simp [y_rk]⟩)
  | succ k ih =>
    rcases ih with ⟨j, hj, h⟩ | h
    · exact Or.inl ⟨j, by omega, h⟩
    · by_cases hs : ∀ s, s < 60 → y_rk op a (k + 1) s = y_rk op a k s
      · exact Or.inl ⟨k, by omega, hs⟩
      · refine Or.inr ?_
        obtain ⟨s, hs⟩ := Classical.not_forall.mp hs
        obtain ⟨h60, hne⟩ := Classical.not_imp.mp hs
        have h0 : y_rk op a k s = false := by
          cases h1 : y_rk op a k s with
          | false => rfl
          | true => rw [y_rk_s, h1, Bool.true_or] at hne; exact absurd rfl hne
        have h1 : y_rk op a (k + 1) s = true := by
          cases h1 : y_rk op a (k + 1) s with
          | true => rfl
          | false => rw [h1, h0] at hne; exact absurd rfl hne
        have e := fb_ct_upd (y_rk op a k) true h60
        rw [h0] at e
        have e2 : fb_ct (fun j => if j = s then true else y_rk op a k j) 60 ≤ fb_ct (y_rk op a (k + 1)) 60 := by
          refine fb_ct_sub (fun j _ hj => ?_)
          by_cases hjs : j = s
          · rw [hjs]; exact h1
          · rw [if_neg hjs] at hj; rw [y_rk_s, hj, Bool.true_or]
        simp only [Bool.false_eq_true, if_false, if_true] at e
        omega
/-- after 59 steps nothing more is reached -/
theorem y_rk_59 {op : Nat → Bool} {a k s : Nat} (ha : a < 60) (hs : s < 60) (h : y_rk op a k s = true) : y_rk op a 59 s = true := by
  rcases y_rk_grow (op := op) ha 60 with ⟨j, hj, hst⟩ | h2
  · have h3 := y_rk_mono h (59 + j)
    rw [show k + (59 + j) = j + (59 + k) by omega, y_rk_stab hst _ s hs, ← y_rk_stab hst (59 - j) s hs, show j + (59 - j) = 59 by omega] at h3
    exact h3
  · have := fb_ct_le (y_rk op a 60) 60
    omega
def y_ft (u : Nat → Int32) (x : Int32) : Nat → Option Nat
  | 0 => none
  | n + 1 => match y_ft u x n with
    | some a => some a
    | none => if u n = x then some n else none
theorem y_ft_some {u : Nat → Int32} {x : Int32} {a : Nat} : ∀ {n : Nat}, y_ft u x n = some a → a < n ∧ u a = x ∧ ∀ j, j < a → ¬ u j = x := by
  intro n
  have key : ∀ n, (y_ft u x n = none → ∀ j, j < n → ¬ u j = x) ∧ (∀ a, y_ft u x n = some a → a < n ∧ u a = x ∧ ∀ j, j < a → ¬ u j = x) := by
    intro n
    induction n with
    | zero => exact ⟨fun _ j hj => absurd hj (by omega), fun a h => by cases h⟩
    | succ n ih =>
      cases hf : y_ft u x n with
      | some b =>
        have e : y_ft u x (n + 1) = some b := by rw [y_ft, hf]
        rw [e]
        refine ⟨fun q => (by cases q), fun a h => ?_⟩
        cases h
        obtain ⟨h1, h2, h3⟩ := ih.2 b hf
        exact ⟨by omega, h2, h3⟩
      | none =>
        have e : y_ft u x (n + 1) = if u n = x then some n else none := by rw [y_ft, hf]
        rw [e]
        by_cases hu : u n = x
        · rw [if_pos hu]
          refine ⟨fun q => (by cases q), fun a h => ?_⟩
          cases h
          exact ⟨by omega, hu, ih.1 hf⟩
        · rw [if_neg hu]
          refine ⟨fun _ j hj => ?_, fun a h => by cases h⟩
          by_cases e : j = n
          · rw [e]; exact hu
          · exact ih.1 hf j (by omega)
  exact (key n).2 a
theorem y_ft_none {u : Nat → Int32} {x : Int32} : ∀ {n : Nat}, y_ft u x n = none → ∀ j, j < n → ¬ u j = x := by
  intro n
  induction n with
  | zero => intro _ j hj; omega
  | succ n ih =>
    intro h
    cases hf : y_ft u x n with
    | some b => rw [y_ft, hf] at h; cases h
    | none =>
      rw [y_ft, hf] at h
      by_cases hu : u n = x
      · rw [if_pos hu] at h; cases h
      · intro j hj
        by_cases e : j = n
        · rw [e]; exact hu
        · exact ih hf j (by omega)
def y_jnc (u : Nat → Int32) (x : Int32) (o : Option Nat) : Bool := o.elim true (fun a => k_all (fun s => !(decide (u s = x)) || y_rk (fun s => decide (u s = x)) a 59 s) 60)
def y_jnb (u : Nat → Int32) (x : Int32) : Bool := y_jnc u x (y_ft u x 60)
def y_jI (u : Nat → Int32) (x : Int32) (a : Nat) (q : Nat → Bool) : Prop := q a = true ∧ ∀ j, j < 60 → q j = true → u j = x ∧ ∃ k, y_rk (fun s => decide (u s = x)) a k j = true
theorem k_all_cong {p q : Nat → Bool} : ∀ {n : Nat}, (∀ i, i < n → p i = q i) → k_all p n = k_all q n := by
  intro n
  induction n with
  | zero => intro _; rfl
  | succ n ih => intro h; rw [k_all, k_all, ih (fun i hi => h i (by omega)), h n (by omega)]
theorem y_jnb_none {u : Nat → Int32} {x : Int32} {q : Nat → Bool} (h : y_ft u x 60 = none) : k_all (fun s => !(decide (u s = x)) || q s) 60 = y_jnb u x := by
  rw [y_jnb, h]
  show k_all _ 60 = true
  exact k_all_iff.mpr (fun s hs => by rw [decide_eq_false (y_ft_none h s hs)]; rfl)
theorem y_jnb_some {u : Nat → Int32} {x : Int32} {a : Nat} {q : Nat → Bool} (h : y_ft u x 60 = some a) (hI : y_jI u x a q) (hc : ∀ s, s < 60 → u s = x → q s = false → y_nb q s 4 = false) : k_all (fun s => !(decide (u s = x)) || q s) 60 = y_jnb u x := by
  rw [y_jnb, h]
  show _ = k_all (fun s => !(decide (u s = x)) || y_rk (fun s => decide (u s = x)) a 59 s) 60
  obtain ⟨ha, hx, -⟩ := y_ft_some h
  have key : ∀ k s, s < 60 → y_rk (fun s => decide (u s = x)) a k s = true → q s = true := by
    intro k
    induction k with
    | zero => intro s _ h0; rw [of_decide_eq_true h0]; exact hI.1
    | succ k ih =>
      intro s hs h0
      rw [y_rk_s, Bool.or_eq_true, Bool.and_eq_true] at h0
      rcases h0 with h0 | ⟨h1, h2⟩
      · exact ih s hs h0
      · cases hq : q s with
        | true => rfl
        | false =>
          have h3 := hc s hs (of_decide_eq_true h1) hq
          obtain ⟨w, hw, h4⟩ := k_any_iff.mp h2
          have h5 : y_nb q s 4 = true := by
            refine k_any_iff.mpr ⟨w, hw, ?_⟩
            cases hb : k_bd s w with
            | none => rw [hb] at h4; exact h4
            | some t => rw [hb] at h4; exact ih t (k_bd_lt hs hb) h4
          rw [h3] at h5
          exact h5
  refine k_all_cong (fun s hs => ?_)
  by_cases hu : u s = x
  · have e : q s = y_rk (fun s => decide (u s = x)) a 59 s := by
      cases hq : q s with
      | true =>
        obtain ⟨k, hk⟩ := (hI.2 s hs hq).2
        exact (y_rk_59 ha hs hk).symm
      | false =>
        cases hr : y_rk (fun s => decide (u s = x)) a 59 s with
        | false => rfl
        | true => rw [key 59 s hs hr] at hq; cases hq
    rw [e]
  · rw [decide_eq_false hu]; rfl
theorem y_jI_add {u : Nat → Int32} {x : Int32} {a s : Nat} {q : Nat → Bool} (hI : y_jI u x a q) (hs : s < 60) (hu : u s = x) (hn : y_nb q s 4 = true) : y_jI u x a (k_ub q s true) := by
  refine ⟨?_, fun j hj hq => ?_⟩
  · unfold k_ub; split; · rfl
    · exact hI.1
  · by_cases e : j = s
    · rw [e]
      refine ⟨hu, ?_⟩
      obtain ⟨w, hw, h4⟩ := k_any_iff.mp hn
      cases hb : k_bd s w with
      | none => rw [hb] at h4; cases h4
      | some t =>
        rw [hb] at h4
        obtain ⟨k, hk⟩ := (hI.2 t (k_bd_lt hs hb) h4).2
        refine ⟨k + 1, ?_⟩
        rw [y_rk_s, Bool.or_eq_true, Bool.and_eq_true]
        exact Or.inr ⟨decide_eq_true hu, k_any_iff.mpr ⟨w, hw, by rw [hb]; exact hk⟩⟩
    · rw [k_ub, if_neg e] at hq; exact hI.2 j hj hq
theorem k_ub_f {q : Nat → Bool} {s : Nat} (h : q s = false) : k_ub q s false = q := by
  funext j
  unfold k_ub
  by_cases e : j = s
  · rw [if_pos e, e, h]
  · rw [if_neg e]
theorem k_ub_s (q : Nat → Bool) (s : Nat) (b : Bool) : k_ub q s b s = b := if_pos rfl
theorem k_ub_n {q : Nat → Bool} {s j : Nat} (b : Bool) (h : ¬ j = s) : k_ub q s b j = q j := if_neg h
def y_hb (j : Nat) (aO aT aS aL u : Nat → Int32) (k : Nat) : Bool := match j with
  | 2 => y_apb aO aT aS u k
  | 3 => !(decide (nI (y_cnt u (aO k) 60) < aL k))
  | 4 => !(decide (aL k < nI (y_cnt u (aO k) 60)))
  | 5 => y_jnb u (aO k)
  | _ => true
def y_fb (p : Nat → Bool) : Nat → Nat → Int32
  | 0, _ => -nI 1
  | n + 1, i => if p i then y_fb p n (i + 1) else nI i
section
variable {l : Launch} {E : mE} {N : Nat} {xs : Nat → Int32} {d : Nat} {tg : Bool} {Z : mH} {h : mH}
variable {th : Int32} {u : Nat → Int32} {so : Nat → Int32} {fz : Nat → Bool} {fs : Nat} {gt : Nat} {yr : Nat} {aK : Nat → Int32} {aO : Nat → Int32} {aT : Nat → Int32} {aH : Nat → Int32} {aW : Nat → Int32} {aS : Nat → Int32} {aL : Nat → Int32} {ls : Nat} {pl : Nat → Int32} {ps : Nat} {tp : Nat → Int32} {td : Nat} {pt : Nat} {en : Nat} {bg : Nat} {fa : Int32} {fv : Nat → Int32} {mt : Nat → Bool} {nx : Nat → Int32} {pL : Nat → Nat} {sg : Nat → Int32} {bo : Nat → Int32} {wa : Nat → Int32} {gv : Nat → Int32} {bw : Int32} {of : Nat → Int32} {o : mH}
set_option maxHeartbeats 2000000 in
theorem y_areJoined (hZ : Z.length = 70) {x : Int32} : m_Sp l (m_EX E N xs) E mM_X9_areJoined (d + 1) 0 0 [.ref 70, .int x] (Z ++ k_M th u so fz fs gt yr aK aO aT aH aW aS aL ls pl ps tp td pt en bg fa fv mt nx pL sg bo wa gv bw of o) tg (fun v H tg' => tg' = tg ∧ (v = some (.int (k_z (y_jnb u x))) ∧ ∃ q : Nat → Bool, H = (Z ++ k_M th u so fz fs gt yr aK aO aT aH aW aS aL ls pl ps tp td pt en bg fa fv q nx pL sg bo wa gv bw of o))) m_no := by
  have hM := mM_X9_areJoined_ok
  refine m_Sp_of (by decide) (Nat.le_of_ble_eq_true rfl) ?_
  have LE9 : ∀ (q : Nat → Bool) (w2 : Option Value) (y3 : Int32) (w4 w5 w6 : Option Value), k_all (fun s => !(decide (u s = x)) || q s) 60 = y_jnb u x → m_J l (m_EX E N xs) E mM_X9_areJoined (d + 1) 0 0 (fun v H tg' => tg' = tg ∧ (v = some (.int (k_z (y_jnb u x))) ∧ ∃ q : Nat → Bool, H = (Z ++ k_M th u so fz fs gt yr aK aO aT aH aW aS aL ls pl ps tp td pt en bg fa fv q nx pL sg bo wa gv bw of o))) m_no tg 0 0 (190, [some (.ref 70), some (.int x), w2, some (.int y3), w4, w5, w6], [], (Z ++ k_M th u so fz fs gt yr aK aO aT aH aW aS aL ls pl ps tp td pt en bg fa fv q nx pL sg bo wa gv bw of o)) := by
    intro q w2 y3 w4 w5 w6 hA
    refine m_J_run hM 4 rfl ⟨trivial, trivial, trivial, trivial, trivial⟩ ?_
    have LP : ∀ (n9 s : Nat), s + n9 = 60 → m_J l (m_EX E N xs) E mM_X9_areJoined (d + 1) 0 0 (fun v H tg' => tg' = tg ∧ (v = some (.int (k_z (y_jnb u x))) ∧ ∃ q : Nat → Bool, H = (Z ++ k_M th u so fz fs gt yr aK aO aT aH aW aS aL ls pl ps tp td pt en bg fa fv q nx pL sg bo wa gv bw of o))) m_no tg 0 0 (196, [some (.ref 70), some (.int x), w2, some (.int y3), some (.int (k_z (k_all (fun s => !(decide (u s = x)) || q s) s))), some (.int (nI s)), w6], [], (Z ++ k_M th u so fz fs gt yr aK aO aT aH aW aS aL ls pl ps tp td pt en bg fa fv q nx pL sg bo wa gv bw of o)) := by
      intro n9
      induction n9 with
      | zero =>
        intro s  hi 
        have e9 : s = 60 := by omega
        rw [e9]
        refine m_J_run hM 3 rfl ⟨trivial, trivial, trivial, trivial⟩ ?_
        refine m_J_if (fun _ => ?_) (fun hc => absurd (nI_le (by omega) (by omega)) hc)
        refine m_J_run hM 1 rfl ⟨trivial, trivial⟩ ?_
        exact m_J_iret hM rfl rfl (k_z_nar _) (Nat.le_of_ble_eq_true rfl) (Nat.le_of_ble_eq_true rfl) (⟨rfl, by rw [hA], _, rfl⟩)
      | succ n9 ih =>
        intro s  hi 
        refine m_J_run hM 3 rfl ⟨trivial, trivial, trivial, trivial⟩ ?_
        refine m_J_if (fun hc => absurd hc (nI_ge (by omega) (by omega))) (fun _ => ?_)
        refine m_J_run hM 1 rfl ⟨trivial, trivial⟩ ?_
        cases h4 : k_all (fun s => !(decide (u s = x)) || q s) s with
        | false =>
          refine m_J_run hM 1 rfl ⟨trivial, trivial⟩ ?_
          refine m_J_if (fun _ => ?_) (fun hc => absurd (by decide) hc)
          refine m_J_run hM 4 rfl ⟨trivial, trivial, trivial, trivial, trivial⟩ ?_
          rw [nI_add s 1]
          have h9 := ih (s + 1) (by omega)
          rw [show k_all (fun s => !(decide (u s = x)) || q s) (s + 1) = false by rw [k_all, h4, Bool.false_and]] at h9
          exact h9
        | true =>
          refine m_J_run hM 1 rfl ⟨trivial, trivial⟩ ?_
          refine m_J_if (fun hc => absurd hc (by decide)) (fun _ => ?_)
          refine m_J_run hM 1 rfl ⟨trivial, trivial⟩ ?_
          refine m_J_getf hM rfl rfl (kZ hZ 0 rfl) (rfl) ?_
          refine m_J_run hM 1 rfl ⟨trivial, trivial⟩ ?_
          refine m_ialdN hM rfl (kZ hZ 1 rfl) (by omega) (by omega) ?_
          refine m_J_run hM 1 rfl ⟨trivial, trivial⟩ ?_
          refine m_J_run hM 1 rfl ⟨trivial, trivial⟩ ?_
          refine m_J_if (fun h5 => ?_) (fun h5 => ?_)
          ·
            refine m_J_run hM 5 rfl ⟨trivial, trivial, trivial, trivial, trivial, trivial⟩ ?_
            rw [nI_add s 1]
            have h9 := ih (s + 1) (by omega)
            rw [show k_all (fun s => !(decide (u s = x)) || q s) (s + 1) = true by rw [k_all, h4, decide_eq_false h5]; rfl] at h9
            exact h9
          ·
            have h5 := Classical.not_not.mp h5
            refine m_J_run hM 1 rfl ⟨trivial, trivial⟩ ?_
            refine m_J_getf hM rfl rfl (kZ hZ 0 rfl) (rfl) ?_
            refine m_J_run hM 1 rfl ⟨trivial, trivial⟩ ?_
            refine m_zaldN hM rfl (kZ hZ 14 rfl) (by omega) (by omega) ?_
            cases h6 : q s with
            | false =>
              refine m_J_run hM 1 rfl ⟨trivial, trivial⟩ ?_
              refine m_J_if (fun _ => ?_) (fun hc => absurd (by decide) hc)
              refine m_J_run hM 4 rfl ⟨trivial, trivial, trivial, trivial, trivial⟩ ?_
              rw [nI_add s 1]
              have h9 := ih (s + 1) (by omega)
              rw [show k_all (fun s => !(decide (u s = x)) || q s) (s + 1) = false by rw [k_all, h4, decide_eq_true h5, h6]; rfl] at h9
              exact h9
            | true =>
              refine m_J_run hM 1 rfl ⟨trivial, trivial⟩ ?_
              refine m_J_if (fun hc => absurd hc (by decide)) (fun _ => ?_)
              refine m_J_run hM 5 rfl ⟨trivial, trivial, trivial, trivial, trivial, trivial⟩ ?_
              rw [nI_add s 1]
              have h9 := ih (s + 1) (by omega)
              rw [show k_all (fun s => !(decide (u s = x)) || q s) (s + 1) = true by rw [k_all, h4, decide_eq_true h5, h6]; rfl] at h9
              exact h9
    exact LP 60 0 (by omega)
  refine m_J_run hM 4 rfl ⟨trivial, trivial, trivial, trivial, trivial⟩ ?_
  have LP : ∀ (n9 s : Nat) (q : Nat → Bool), s + n9 = 60 → (∀ j, j < s → q j = decide (y_ft u x s = some j)) → m_J l (m_EX E N xs) E mM_X9_areJoined (d + 1) 0 0 (fun v H tg' => tg' = tg ∧ (v = some (.int (k_z (y_jnb u x))) ∧ ∃ q : Nat → Bool, H = (Z ++ k_M th u so fz fs gt yr aK aO aT aH aW aS aL ls pl ps tp td pt en bg fa fv q nx pL sg bo wa gv bw of o))) m_no tg 0 0 (4, [some (.ref 70), some (.int x), some (.int (k_on (y_ft u x s))), some (.int (nI s)), none, none, none], [], (Z ++ k_M th u so fz fs gt yr aK aO aT aH aW aS aL ls pl ps tp td pt en bg fa fv q nx pL sg bo wa gv bw of o)) := by
    intro n9
    induction n9 with
    | zero =>
      intro s q hi hq
      have e9 : s = 60 := by omega
      rw [e9] at hq ⊢
      cases hf : y_ft u x 60 with
      | none =>
        rw [k_on_n]
        refine m_J_run hM 3 rfl ⟨trivial, trivial, trivial, trivial⟩ ?_
        refine m_J_if (fun _ => ?_) (fun hc => absurd (nI_le (by omega) (by omega)) hc)
        refine m_J_run hM 2 rfl ⟨trivial, trivial, trivial⟩ ?_
        refine m_J_if (fun _ => ?_) (fun hc => absurd (by decide) hc)
        refine m_J_run hM 4 rfl ⟨trivial, trivial, trivial, trivial, trivial⟩ ?_
        refine m_J_if (fun _ => ?_) (fun hc => absurd (by first | decide | (rw [show 0 = 0 by omega]; decide)) hc)
        exact LE9 q _ _ _ _ _ (y_jnb_none hf)
      | some a =>
        rw [k_on_s]
        have ha := (y_ft_some hf).1
        refine m_J_run hM 3 rfl ⟨trivial, trivial, trivial, trivial⟩ ?_
        refine m_J_if (fun _ => ?_) (fun hc => absurd (nI_le (by omega) (by omega)) hc)
        refine m_J_run hM 2 rfl ⟨trivial, trivial, trivial⟩ ?_
        refine m_J_if (fun hc => absurd hc (nI_pos (by omega))) (fun _ => ?_)
        refine m_J_run hM 3 rfl ⟨trivial, trivial, trivial, trivial⟩ ?_
        have SW : ∀ (q : Nat → Bool) (w4 w5 w6 : Option Value), y_jI u x a q → (∀ (q2 : Nat → Bool) (w4 w5 w6 : Option Value), y_jI u x a q2 → fb_ct q 60 + 1 ≤ fb_ct q2 60 → m_J l (m_EX E N xs) E mM_X9_areJoined (d + 1) 0 0 (fun v H tg' => tg' = tg ∧ (v = some (.int (k_z (y_jnb u x))) ∧ ∃ q : Nat → Bool, H = (Z ++ k_M th u so fz fs gt yr aK aO aT aH aW aS aL ls pl ps tp td pt en bg fa fv q nx pL sg bo wa gv bw of o))) m_no tg 0 0 (62, [some (.ref 70), some (.int x), some (.int (nI a)), some (.int (nI 1)), w4, w5, w6], [], (Z ++ k_M th u so fz fs gt yr aK aO aT aH aW aS aL ls pl ps tp td pt en bg fa fv q2 nx pL sg bo wa gv bw of o))) → m_J l (m_EX E N xs) E mM_X9_areJoined (d + 1) 0 0 (fun v H tg' => tg' = tg ∧ (v = some (.int (k_z (y_jnb u x))) ∧ ∃ q : Nat → Bool, H = (Z ++ k_M th u so fz fs gt yr aK aO aT aH aW aS aL ls pl ps tp td pt en bg fa fv q nx pL sg bo wa gv bw of o))) m_no tg 0 0 (62, [some (.ref 70), some (.int x), some (.int (nI a)), some (.int (nI 1)), w4, w5, w6], [], (Z ++ k_M th u so fz fs gt yr aK aO aT aH aW aS aL ls pl ps tp td pt en bg fa fv q nx pL sg bo wa gv bw of o)) := by
          intro q w4 w5 w6 hI K9
          refine m_J_run hM 2 rfl ⟨trivial, trivial, trivial⟩ ?_
          refine m_J_if (fun hc => absurd hc (nI_ne0 (by omega) (by omega))) (fun _ => ?_)
          refine m_J_run hM 4 rfl ⟨trivial, trivial, trivial, trivial, trivial⟩ ?_
          have LI : ∀ (i9 i : Nat) (g9 : Bool) (r : Nat → Bool) (w5 : Option Value) (w6 : Option Value), i + i9 = 60 → y_jI u x a r → fb_ct q 60 + (if g9 then 1 else 0) ≤ fb_ct r 60 → (g9 = false → ∀ s, s < i → u s = x → r s = false → y_nb r s 4 = false) → m_J l (m_EX E N xs) E mM_X9_areJoined (d + 1) 0 0 (fun v H tg' => tg' = tg ∧ (v = some (.int (k_z (y_jnb u x))) ∧ ∃ q : Nat → Bool, H = (Z ++ k_M th u so fz fs gt yr aK aO aT aH aW aS aL ls pl ps tp td pt en bg fa fv q nx pL sg bo wa gv bw of o))) m_no tg 0 0 (71, [some (.ref 70), some (.int x), some (.int (nI a)), some (.int (k_z g9)), some (.int (nI i)), w5, w6], [], (Z ++ k_M th u so fz fs gt yr aK aO aT aH aW aS aL ls pl ps tp td pt en bg fa fv r nx pL sg bo wa gv bw of o)) := by
            intro i9
            induction i9 with
            | zero =>
              intro i g9 r w5 w6 hi h1 h2 h3
              have e8 : i = 60 := by omega
              rw [e8] at h3 ⊢
              refine m_J_run hM 3 rfl ⟨trivial, trivial, trivial, trivial⟩ ?_
              refine m_J_if (fun _ => ?_) (fun hc => absurd (nI_le (by omega) (by omega)) hc)
              refine m_J_run hM 1 rfl ⟨trivial, trivial⟩ ?_
              cases g9 with
              | true =>
                exact K9 r _ _ _ h1 h2
              | false =>
                refine m_J_run hM 2 rfl ⟨trivial, trivial, trivial⟩ ?_
                refine m_J_if (fun _ => ?_) (fun hc => absurd (by decide) hc)
                exact LE9 r _ _ _ _ _ (y_jnb_some hf h1 (h3 rfl))
            | succ i9 ihi =>
              intro i g9 r w5 w6 hi h1 h2 h3
              refine m_J_run hM 3 rfl ⟨trivial, trivial, trivial, trivial⟩ ?_
              refine m_J_if (fun hc => absurd hc (nI_ge (by omega) (by omega))) (fun _ => ?_)
              refine m_J_run hM 1 rfl ⟨trivial, trivial⟩ ?_
              refine m_J_getf hM rfl rfl (kZ hZ 0 rfl) (rfl) ?_
              refine m_J_run hM 1 rfl ⟨trivial, trivial⟩ ?_
              refine m_zaldN hM rfl (kZ hZ 14 rfl) (by omega) (by omega) ?_
              cases h4 : r i with
              | false =>
                refine m_J_run hM 1 rfl ⟨trivial, trivial⟩ ?_
                refine m_J_if (fun hc => absurd hc (by decide)) (fun _ => ?_)
                refine m_J_run hM 1 rfl ⟨trivial, trivial⟩ ?_
                refine m_J_getf hM rfl rfl (kZ hZ 0 rfl) (rfl) ?_
                refine m_J_run hM 1 rfl ⟨trivial, trivial⟩ ?_
                refine m_ialdN hM rfl (kZ hZ 1 rfl) (by omega) (by omega) ?_
                refine m_J_run hM 1 rfl ⟨trivial, trivial⟩ ?_
                refine m_J_run hM 1 rfl ⟨trivial, trivial⟩ ?_
                refine m_J_if (fun h5 => ?_) (fun h5 => ?_)
                ·
                  refine m_J_run hM 4 rfl ⟨trivial, trivial, trivial, trivial, trivial⟩ ?_
                  have LW : ∀ (k9 w : Nat), w + k9 = 4 → m_J l (m_EX E N xs) E mM_X9_areJoined (d + 1) 0 0 (fun v H tg' => tg' = tg ∧ (v = some (.int (k_z (y_jnb u x))) ∧ ∃ q : Nat → Bool, H = (Z ++ k_M th u so fz fs gt yr aK aO aT aH aW aS aL ls pl ps tp td pt en bg fa fv q nx pL sg bo wa gv bw of o))) m_no tg 0 0 (108, [some (.ref 70), some (.int x), some (.int (nI a)), some (.int (k_z g9)), some (.int (nI i)), some (.int (k_z (y_nb r i w))), some (.int (nI w))], [], (Z ++ k_M th u so fz fs gt yr aK aO aT aH aW aS aL ls pl ps tp td pt en bg fa fv r nx pL sg bo wa gv bw of o)) := by
                    intro k9
                    induction k9 with
                    | zero =>
                      intro w  hw 
                      have e9 : w = 4 := by omega
                      rw [e9]
                      refine m_J_run hM 3 rfl ⟨trivial, trivial, trivial, trivial⟩ ?_
                      refine m_J_if (fun _ => ?_) (fun hc => absurd (nI_le (by omega) (by omega)) hc)
                      refine m_J_run hM 1 rfl ⟨trivial, trivial⟩ ?_
                      refine m_J_getf hM rfl rfl (kZ hZ 0 rfl) (rfl) ?_
                      refine m_J_run hM 2 rfl ⟨trivial, trivial, trivial⟩ ?_
                      refine m_zastN hM rfl (kZ hZ 14 rfl) (by omega) (by omega) ?_
                      refine m_J_eqH (H' := (Z ++ k_M th u so fz fs gt yr aK aO aT aH aW aS aL ls pl ps tp td pt en bg fa fv (k_ub r i (y_nb r i 4)) nx pL sg bo wa gv bw of o)) (kZs hZ 14 (by rw [k_uZ]; rfl)) ?_
                      refine m_J_run hM 1 rfl ⟨trivial, trivial⟩ ?_
                      cases hn : y_nb r i 4 with
                      | false =>
                        rw [k_ub_f h4]
                        cases g9 with
                        | false =>
                          refine m_J_run hM 1 rfl ⟨trivial, trivial⟩ ?_
                          refine m_J_if (fun hc => absurd hc (by decide)) (fun _ => ?_)
                          refine m_J_run hM 2 rfl ⟨trivial, trivial, trivial⟩ ?_
                          refine m_J_if (fun _ => ?_) (fun hc => absurd (by decide) hc)
                          refine m_J_run hM 4 rfl ⟨trivial, trivial, trivial, trivial, trivial⟩ ?_
                          rw [nI_add i 1]
                          have h9 := ihi (i + 1) false r (some (.int (k_z false))) (some (.int (nI 4))) (by omega) h1 h2 (fun _ s hs hu hr => if e : s = i then by rw [e]; exact hn else h3 rfl s (by omega) hu hr)
                          exact h9
                        | true =>
                          refine m_J_run hM 1 rfl ⟨trivial, trivial⟩ ?_
                          refine m_J_if (fun _ => ?_) (fun hc => absurd (by decide) hc)
                          refine m_J_run hM 5 rfl ⟨trivial, trivial, trivial, trivial, trivial, trivial⟩ ?_
                          rw [nI_add i 1]
                          have h9 := ihi (i + 1) true r (some (.int (k_z false))) (some (.int (nI 4))) (by omega) h1 h2 (fun q => by cases q)
                          exact h9
                      | true =>
                        have hc2 := fb_ct_upd r true (i := i) (n := 60) (by omega)
                        rw [h4] at hc2
                        simp only [Bool.false_eq_true, if_false, if_true] at hc2
                        have hc3 : fb_ct q 60 + 1 ≤ fb_ct (k_ub r i true) 60 := by show fb_ct q 60 + 1 ≤ fb_ct (fun j => if j = i then true else r j) 60; omega
                        have hI2 := y_jI_add h1 (by omega) h5 hn
                        cases g9 with
                        | false =>
                          refine m_J_run hM 1 rfl ⟨trivial, trivial⟩ ?_
                          refine m_J_if (fun hc => absurd hc (by decide)) (fun _ => ?_)
                          refine m_J_run hM 2 rfl ⟨trivial, trivial, trivial⟩ ?_
                          refine m_J_if (fun hc => absurd hc (by decide)) (fun _ => ?_)
                          refine m_J_run hM 5 rfl ⟨trivial, trivial, trivial, trivial, trivial, trivial⟩ ?_
                          rw [nI_add i 1]
                          have h9 := ihi (i + 1) true (k_ub r i true) (some (.int (k_z true))) (some (.int (nI 4))) (by omega) hI2 hc3 (fun q => by cases q)
                          exact h9
                        | true =>
                          refine m_J_run hM 1 rfl ⟨trivial, trivial⟩ ?_
                          refine m_J_if (fun _ => ?_) (fun hc => absurd (by decide) hc)
                          refine m_J_run hM 5 rfl ⟨trivial, trivial, trivial, trivial, trivial, trivial⟩ ?_
                          rw [nI_add i 1]
                          have h9 := ihi (i + 1) true (k_ub r i true) (some (.int (k_z true))) (some (.int (nI 4))) (by omega) hI2 hc3 (fun q => by cases q)
                          exact h9
                    | succ k9 ihw =>
                      intro w  hw 
                      refine m_J_run hM 3 rfl ⟨trivial, trivial, trivial, trivial⟩ ?_
                      refine m_J_if (fun hc => absurd hc (nI_ge (by omega) (by omega))) (fun _ => ?_)
                      refine m_J_run hM 1 rfl ⟨trivial, trivial⟩ ?_
                      cases hy : y_nb r i w with
                      | false =>
                        refine m_J_run hM 1 rfl ⟨trivial, trivial⟩ ?_
                        refine m_J_if (fun hc => absurd hc (by decide)) (fun _ => ?_)
                        refine m_J_run hM 2 rfl ⟨trivial, trivial, trivial⟩ ?_
                        refine m_cS2 hM rfl kw_X9_229 (y_bd (by omega) (by omega)) (Nat.le_of_ble_eq_true rfl) ?_
                        cases hb : k_bd i w with
                        | none =>
                          rw [k_on_n]
                          refine m_J_run hM 1 rfl ⟨trivial, trivial⟩ ?_
                          refine m_J_if (fun _ => ?_) (fun hc => absurd (by decide) hc)
                          refine m_J_run hM 4 rfl ⟨trivial, trivial, trivial, trivial, trivial⟩ ?_
                          rw [nI_add w 1]
                          have h9 := ihw (w + 1) (by omega)
                          rw [show y_nb r i (w + 1) = false by show (y_nb r i w || (k_bd i w).elim false r) = false; rw [hy, hb]; rfl] at h9
                          exact h9
                        | some t9 =>
                          rw [k_on_s]
                          have hbt : t9 < 60 := k_bd_lt (by omega) hb
                          refine m_J_run hM 1 rfl ⟨trivial, trivial⟩ ?_
                          refine m_J_if (fun hc => absurd hc (nI_pos (by omega))) (fun _ => ?_)
                          refine m_J_run hM 1 rfl ⟨trivial, trivial⟩ ?_
                          refine m_J_getf hM rfl rfl (kZ hZ 0 rfl) (rfl) ?_
                          refine m_J_run hM 2 rfl ⟨trivial, trivial, trivial⟩ ?_
                          refine m_cS2 hM rfl kw_X9_229 (y_bd (by omega) (by omega)) (Nat.le_of_ble_eq_true rfl) ?_
                          rw [hb, k_on_s]
                          refine m_zaldN hM rfl (kZ hZ 14 rfl) (by omega) (by omega) ?_
                          cases hr : r t9 with
                          | false =>
                            refine m_J_run hM 1 rfl ⟨trivial, trivial⟩ ?_
                            refine m_J_if (fun _ => ?_) (fun hc => absurd (by decide) hc)
                            refine m_J_run hM 4 rfl ⟨trivial, trivial, trivial, trivial, trivial⟩ ?_
                            rw [nI_add w 1]
                            have h9 := ihw (w + 1) (by omega)
                            rw [show y_nb r i (w + 1) = false by show (y_nb r i w || (k_bd i w).elim false r) = false; rw [hy, hb]; exact hr] at h9
                            exact h9
                          | true =>
                            refine m_J_run hM 1 rfl ⟨trivial, trivial⟩ ?_
                            refine m_J_if (fun hc => absurd hc (by decide)) (fun _ => ?_)
                            refine m_J_run hM 5 rfl ⟨trivial, trivial, trivial, trivial, trivial, trivial⟩ ?_
                            rw [nI_add w 1]
                            have h9 := ihw (w + 1) (by omega)
                            rw [show y_nb r i (w + 1) = true by show (y_nb r i w || (k_bd i w).elim false r) = true; rw [hy, hb]; exact hr] at h9
                            exact h9
                      | true =>
                        refine m_J_run hM 1 rfl ⟨trivial, trivial⟩ ?_
                        refine m_J_if (fun _ => ?_) (fun hc => absurd (by decide) hc)
                        refine m_J_run hM 5 rfl ⟨trivial, trivial, trivial, trivial, trivial, trivial⟩ ?_
                        rw [nI_add w 1]
                        have h9 := ihw (w + 1) (by omega)
                        rw [show y_nb r i (w + 1) = true by show (y_nb r i w || (k_bd i w).elim false r) = true; rw [hy]; rfl] at h9
                        exact h9
                  exact LW 4 0 (by omega)
                ·
                  refine m_J_run hM 3 rfl ⟨trivial, trivial, trivial, trivial⟩ ?_
                  rw [nI_add i 1]
                  have h9 := ihi (i + 1) g9 r w5 w6 (by omega) h1 h2 (fun he s hs hu hr => if e : s = i then absurd (by rw [← e]; exact hu) h5 else h3 he s (by omega) hu hr)
                  exact h9
              | true =>
                refine m_J_run hM 1 rfl ⟨trivial, trivial⟩ ?_
                refine m_J_if (fun _ => ?_) (fun hc => absurd (by decide) hc)
                refine m_J_run hM 2 rfl ⟨trivial, trivial, trivial⟩ ?_
                rw [nI_add i 1]
                have h9 := ihi (i + 1) g9 r w5 w6 (by omega) h1 h2 (fun he s hs hu hr => if e : s = i then by rw [e, h4] at hr; cases hr else h3 he s (by omega) hu hr)
                exact h9
          exact LI 60 0 false q w5 w6 (by omega) hI (Nat.le_refl _) (fun _ s hs => absurd hs (by omega))
        have LW9 : ∀ (n : Nat) (q : Nat → Bool) (w4 w5 w6 : Option Value), 60 ≤ fb_ct q 60 + n → y_jI u x a q → m_J l (m_EX E N xs) E mM_X9_areJoined (d + 1) 0 0 (fun v H tg' => tg' = tg ∧ (v = some (.int (k_z (y_jnb u x))) ∧ ∃ q : Nat → Bool, H = (Z ++ k_M th u so fz fs gt yr aK aO aT aH aW aS aL ls pl ps tp td pt en bg fa fv q nx pL sg bo wa gv bw of o))) m_no tg 0 0 (62, [some (.ref 70), some (.int x), some (.int (nI a)), some (.int (nI 1)), w4, w5, w6], [], (Z ++ k_M th u so fz fs gt yr aK aO aT aH aW aS aL ls pl ps tp td pt en bg fa fv q nx pL sg bo wa gv bw of o)) := by
          intro n
          induction n with
          | zero => exact fun q w4 w5 w6 hn hI => SW q w4 w5 w6 hI (fun q2 _ _ _ _ hc => by have := fb_ct_le q2 60; omega)
          | succ n ih => exact fun q w4 w5 w6 hn hI => SW q w4 w5 w6 hI (fun q2 w4 w5 w6 hI2 hc => ih q2 w4 w5 w6 (by omega) hI2)
        refine LW9 60 q _ _ _ (by omega) ⟨?_, fun j hj hq2 => ?_⟩
        · rw [hq a ha, hf]; exact decide_eq_true rfl
        · rw [hq j hj, hf] at hq2
          have e := Option.some.inj (of_decide_eq_true hq2)
          subst e
          exact ⟨(y_ft_some hf).2.1, 0, decide_eq_true rfl⟩
    | succ n9 ih =>
      intro s q hi hq
      cases hf : y_ft u x s with
      | some a =>
        rw [k_on_s]
        have ha := (y_ft_some hf).1
        have hf2 : y_ft u x (s + 1) = some a := by rw [y_ft, hf]
        refine m_J_run hM 3 rfl ⟨trivial, trivial, trivial, trivial⟩ ?_
        refine m_J_if (fun hc => absurd hc (nI_ge (by omega) (by omega))) (fun _ => ?_)
        refine m_J_run hM 1 rfl ⟨trivial, trivial⟩ ?_
        refine m_J_getf hM rfl rfl (kZ hZ 0 rfl) (rfl) ?_
        refine m_J_run hM 3 rfl ⟨trivial, trivial, trivial, trivial⟩ ?_
        refine m_J_if (fun _ => ?_) (fun hc => absurd (nI_pos' (by omega)) hc)
        refine m_J_run hM 1 rfl ⟨trivial, trivial⟩ ?_
        rw [show nI 0 = k_z false from rfl]
        refine m_zastN hM rfl (kZ hZ 14 rfl) (by omega) (by omega) ?_
        refine m_J_eqH (H' := (Z ++ k_M th u so fz fs gt yr aK aO aT aH aW aS aL ls pl ps tp td pt en bg fa fv (k_ub q s false) nx pL sg bo wa gv bw of o)) (kZs hZ 14 (by rw [k_uZ]; rfl)) ?_
        refine m_J_run hM 1 rfl ⟨trivial, trivial⟩ ?_
        refine m_J_getf hM rfl rfl (kZ hZ 0 rfl) (rfl) ?_
        refine m_J_run hM 1 rfl ⟨trivial, trivial⟩ ?_
        refine m_zaldN hM rfl (kZ hZ 14 rfl) (by omega) (by omega) ?_
        rw [k_ub_s]
        refine m_J_run hM 1 rfl ⟨trivial, trivial⟩ ?_
        refine m_J_if (fun _ => ?_) (fun hc => absurd (by decide) hc)
        refine m_J_run hM 2 rfl ⟨trivial, trivial, trivial⟩ ?_
        rw [nI_add s 1]
        have h9 := ih (s + 1) (k_ub q s false) (by omega) (fun j hj => if e : j = s then by rw [e, k_ub_s, hf2]; exact (decide_eq_false (fun r => by have := Option.some.inj r; omega)).symm else by rw [k_ub_n _ e, hq j (by omega), hf, hf2])
        rw [hf2] at h9
        rw [k_on_s] at h9
        exact h9
      | none =>
        rw [k_on_n]
        refine m_J_run hM 3 rfl ⟨trivial, trivial, trivial, trivial⟩ ?_
        refine m_J_if (fun hc => absurd hc (nI_ge (by omega) (by omega))) (fun _ => ?_)
        refine m_J_run hM 1 rfl ⟨trivial, trivial⟩ ?_
        refine m_J_getf hM rfl rfl (kZ hZ 0 rfl) (rfl) ?_
        refine m_J_run hM 3 rfl ⟨trivial, trivial, trivial, trivial⟩ ?_
        refine m_J_if (fun hc => absurd hc (by decide)) (fun _ => ?_)
        refine m_J_run hM 1 rfl ⟨trivial, trivial⟩ ?_
        refine m_J_getf hM rfl rfl (kZ hZ 0 rfl) (rfl) ?_
        refine m_J_run hM 1 rfl ⟨trivial, trivial⟩ ?_
        refine m_ialdN hM rfl (kZ hZ 1 rfl) (by omega) (by omega) ?_
        refine m_J_run hM 1 rfl ⟨trivial, trivial⟩ ?_
        refine m_J_run hM 1 rfl ⟨trivial, trivial⟩ ?_
        refine m_J_if (fun h5 => ?_) (fun h5 => ?_)
        ·
          have hf2 : y_ft u x (s + 1) = none := by rw [y_ft, hf]; exact if_neg h5
          refine m_J_run hM 1 rfl ⟨trivial, trivial⟩ ?_
          rw [show nI 0 = k_z false from rfl]
          refine m_zastN hM rfl (kZ hZ 14 rfl) (by omega) (by omega) ?_
          refine m_J_eqH (H' := (Z ++ k_M th u so fz fs gt yr aK aO aT aH aW aS aL ls pl ps tp td pt en bg fa fv (k_ub q s false) nx pL sg bo wa gv bw of o)) (kZs hZ 14 (by rw [k_uZ]; rfl)) ?_
          refine m_J_run hM 1 rfl ⟨trivial, trivial⟩ ?_
          refine m_J_getf hM rfl rfl (kZ hZ 0 rfl) (rfl) ?_
          refine m_J_run hM 1 rfl ⟨trivial, trivial⟩ ?_
          refine m_zaldN hM rfl (kZ hZ 14 rfl) (by omega) (by omega) ?_
          rw [k_ub_s]
          refine m_J_run hM 1 rfl ⟨trivial, trivial⟩ ?_
          refine m_J_if (fun _ => ?_) (fun hc => absurd (by decide) hc)
          refine m_J_run hM 2 rfl ⟨trivial, trivial, trivial⟩ ?_
          rw [nI_add s 1]
          have h9 := ih (s + 1) (k_ub q s false) (by omega) (fun j hj => if e : j = s then by rw [e, k_ub_s, hf2]; rfl else by rw [k_ub_n _ e, hq j (by omega), hf, hf2])
          rw [hf2] at h9
          rw [k_on_n] at h9
          exact h9
        ·
          have h5 := Classical.not_not.mp h5
          have hf2 : y_ft u x (s + 1) = some s := by rw [y_ft, hf]; exact if_pos h5
          refine m_J_run hM 2 rfl ⟨trivial, trivial, trivial⟩ ?_
          rw [show nI 1 = k_z true from rfl]
          refine m_zastN hM rfl (kZ hZ 14 rfl) (by omega) (by omega) ?_
          refine m_J_eqH (H' := (Z ++ k_M th u so fz fs gt yr aK aO aT aH aW aS aL ls pl ps tp td pt en bg fa fv (k_ub q s true) nx pL sg bo wa gv bw of o)) (kZs hZ 14 (by rw [k_uZ]; rfl)) ?_
          refine m_J_run hM 1 rfl ⟨trivial, trivial⟩ ?_
          refine m_J_getf hM rfl rfl (kZ hZ 0 rfl) (rfl) ?_
          refine m_J_run hM 1 rfl ⟨trivial, trivial⟩ ?_
          refine m_zaldN hM rfl (kZ hZ 14 rfl) (by omega) (by omega) ?_
          rw [k_ub_s]
          refine m_J_run hM 1 rfl ⟨trivial, trivial⟩ ?_
          refine m_J_if (fun hc => absurd hc (by decide)) (fun _ => ?_)
          refine m_J_run hM 4 rfl ⟨trivial, trivial, trivial, trivial, trivial⟩ ?_
          rw [nI_add s 1]
          have h9 := ih (s + 1) (k_ub q s true) (by omega) (fun j hj => if e : j = s then by rw [e, k_ub_s, hf2]; exact (decide_eq_true rfl).symm else by rw [k_ub_n _ e, hq j (by omega), hf, hf2]; exact (decide_eq_false (fun r => by cases r)).trans (decide_eq_false (fun r => e (Option.some.inj r).symm)).symm)
          rw [hf2] at h9
          rw [k_on_s] at h9
          exact h9
  exact LP 60 0 mt (by omega) (fun j hj => absurd hj (by omega))
end
