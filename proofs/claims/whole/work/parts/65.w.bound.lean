/-! HOW FAR FROM NOTHING A WORTH CAN BE -/
def w_nb (q : kL) : Prop := q.1 ≤ 1 → -99 ≤ q.2.2.2.2.2.2.toInt ∧ q.2.2.2.2.2.2.toInt ≤ 99
def w_bd (A : Nat) (x : Int32) : Prop := -(A : Int) ≤ x.toInt ∧ x.toInt ≤ (A : Int)
theorem w_bd_0 (A : Nat) : w_bd A (nI 0) := by
  unfold w_bd
  rw [show (nI 0).toInt = 0 by decide]
  omega
theorem w_bd_w {A B : Nat} {x : Int32} (h : w_bd A x) (hAB : A ≤ B) : w_bd B x := by
  unfold w_bd at h ⊢
  omega
theorem w_bd_add {A B : Nat} {x y : Int32} (hx : w_bd A x) (hy : w_bd B y) (h : A + B < 2147483648) : w_bd (A + B) (x + y) := by
  unfold w_bd at hx hy ⊢
  have e : (x + y).toInt = x.toInt + y.toInt := by
    rw [Int32.toInt_add]
    exact Int.bmod_eq_of_le (by omega) (by omega)
  rw [e]
  omega
theorem w_bd_ite {A : Nat} {c : Prop} [Decidable c] {x y : Int32} (hx : c → w_bd A x) (hy : ¬ c → w_bd A y) : w_bd A (if c then x else y) := by
  by_cases h : c
  · rw [if_pos h]; exact hx h
  · rw [if_neg h]; exact hy h
theorem w_bd_acc {A B : Nat} {b : Int32} {g : Nat → Int32} (hb : w_bd A b) (hg : ∀ i, w_bd B (g i)) : ∀ n, A + B * n < 2147483648 → w_bd (A + B * n) (k_acc b g n)
  | 0, _ => hb
  | n + 1, h => by
    rw [k_acc, Nat.mul_succ, ← Nat.add_assoc]
    rw [Nat.mul_succ] at h
    exact w_bd_add (w_bd_acc hb hg n (by omega)) (hg n) (by omega)
theorem w_bd_sum {B : Nat} {g : Nat → Int32} : ∀ n, (∀ i, i < n → w_bd B (g i)) → B * n < 2147483648 → w_bd (B * n) (k_sum g n)
  | 0, _, _ => w_bd_0 _
  | n + 1, hg, h => by
    rw [k_sum, Nat.mul_succ]
    rw [Nat.mul_succ] at h
    exact w_bd_add (w_bd_sum n (fun i hi => hg i (by omega)) (by omega)) (hg n (by omega)) (by omega)
section
variable {q : kL} {aK aO aT aH aW aS aL so u : Nat → Int32} {k : Nat}
theorem w_bd_pr (hq : q.1 ≤ 6) (hb : w_nb q) (hr : y_LR q aK aO aT aH aW aS aL k) (s t : Nat) (x y : Int32) : w_bd 198 (y_pr aK aO aT aW aS k s t x y) := by
  unfold y_pr
  refine w_bd_ite (fun h0 => ?_) (fun _ => w_bd_0 _)
  have e : q.1 = 0 := by
    rw [hr.1] at h0
    exact (nI_eq (by omega) (by omega)).mp (h0.trans (show (0 : Int32) = nI 0 by decide))
  have hW : w_bd 99 (aW k) := by
    rw [(hr.2.2.1 e).2.2]
    exact hb (by omega)
  have hz : ∀ x y : Int32, w_bd 99 (if aO k = x then (if aT k = y then aW k else nI 0) else nI 0) := fun x y => w_bd_ite (fun _ => w_bd_ite (fun _ => hW) (fun _ => w_bd_0 _)) (fun _ => w_bd_0 _)
  exact w_bd_ite (fun _ => w_bd_add (hz x y) (hz y x) (by omega)) (fun _ => w_bd_0 _)
theorem w_bd_al (hq : q.1 ≤ 6) (hb : w_nb q) (hr : y_LR q aK aO aT aH aW aS aL k) (s : Nat) (x : Int32) : w_bd 99 (y_al aK aO aW aS so k s x) := by
  unfold y_al
  refine w_bd_ite (fun h0 => ?_) (fun _ => w_bd_0 _)
  have e : q.1 = 1 := by
    rw [hr.1] at h0
    exact (nI_eq (by omega) (by omega)).mp h0
  have hW : w_bd 99 (aW k) := by
    rw [(hr.2.2.2.1 e).2]
    exact hb (by omega)
  exact w_bd_ite (fun _ => w_bd_ite (fun _ => w_bd_0 _) (fun _ => hW)) (fun _ => w_bd_0 _)
theorem w_bd_ad (hq : q.1 ≤ 6) (hb : w_nb q) (hr : y_LR q aK aO aT aH aW aS aL k) : ∀ s, s ≤ 60 → w_bd (12000 * s) (y_ad aK aO aT aW aS so u k s)
  | 0, _ => w_bd_0 _
  | s + 1, hs => by
    rw [y_ad]
    have h1 := w_bd_add (w_bd_ad hq hb hr s (by omega)) (w_bd_al (so := so) hq hb hr s (u s)) (by omega)
    exact w_bd_w (w_bd_acc h1 (fun t => w_bd_pr hq hb hr s t (u s) (u t)) s (by omega)) (by omega)
end
