/-! ARRAYS AT A NUMBERED PLACE; heaps with one cell changed -/
section
variable {l : Launch} {EX : State → Prop} {E : mE} {M : mM} {d mc ms : Nat} {PR : Option Value → mH → Bool → Prop} {PX : String → mH → Prop} {tg : Bool} {kc ks : Nat} {pc t : Nat} {L : List (Option Value)} {h : mH} {r : List Value} {a k n : Nat}
theorem m_ialdN {f : Nat → Int32} (hM : m_okM M = true) (hf : (m_tb M).lookup pc = some (.iaload, t)) (hh : h[a]? = some (.inl (0, n, .inl f))) (hk : k < n) (hn : n < 100000) (hJ : m_J l EX E M d mc ms PR PX tg kc ks (pc + 1, L, .int (f k) :: r, h)) : m_J l EX E M d mc ms PR PX tg kc ks (pc, L, .int (nI k) :: .ref a :: r, h) :=
  m_J_iald hM hf hh (vp_in_nI hk (by omega)) (by rw [nI_clamp (by omega)]; exact hJ)
theorem m_baldN {f : Nat → Int32} (hM : m_okM M = true) (hf : (m_tb M).lookup pc = some (.baload, t)) (hh : h[a]? = some (.inl (2, n, .inl f))) (hk : k < n) (hn : n < 100000) (hJ : m_J l EX E M d mc ms PR PX tg kc ks (pc + 1, L, .int (f k) :: r, h)) : m_J l EX E M d mc ms PR PX tg kc ks (pc, L, .int (nI k) :: .ref a :: r, h) :=
  m_J_bald hM hf hh (vp_in_nI hk (by omega)) (by rw [nI_clamp (by omega)]; exact hJ)
theorem m_zaldN {f : Nat → Int32} (hM : m_okM M = true) (hf : (m_tb M).lookup pc = some (.baload, t)) (hh : h[a]? = some (.inl (3, n, .inl f))) (hk : k < n) (hn : n < 100000) (hJ : m_J l EX E M d mc ms PR PX tg kc ks (pc + 1, L, .int (f k) :: r, h)) : m_J l EX E M d mc ms PR PX tg kc ks (pc, L, .int (nI k) :: .ref a :: r, h) :=
  m_J_zald hM hf hh (vp_in_nI hk (by omega)) (by rw [nI_clamp (by omega)]; exact hJ)
theorem m_laldN {f : Nat → Int64} (hM : m_okM M = true) (hf : (m_tb M).lookup pc = some (.laload, t)) (hh : h[a]? = some (.inl (1, n, .inr (.inl f)))) (hk : k < n) (hn : n < 100000) (hJ : m_J l EX E M d mc ms PR PX tg kc ks (pc + 1, L, .long (f k) :: r, h)) : m_J l EX E M d mc ms PR PX tg kc ks (pc, L, .int (nI k) :: .ref a :: r, h) :=
  m_J_lald hM hf hh (vp_in_nI hk (by omega)) (by rw [nI_clamp (by omega)]; exact hJ)
theorem m_aaldN {ti b : Nat} {f : Nat → Option Nat} (hM : m_okM M = true) (hf : (m_tb M).lookup pc = some (.aaload, t)) (hh : h[a]? = some (.inl (ti, n, .inr (.inr (.inr (.inr f)))))) (hti : (Nat.ble 4 ti && Nat.ble ti 6) = true) (hb : f k = some b) (hk : k < n) (hn : n < 100000) (hJ : m_J l EX E M d mc ms PR PX tg kc ks (pc + 1, L, .ref b :: r, h)) : m_J l EX E M d mc ms PR PX tg kc ks (pc, L, .int (nI k) :: .ref a :: r, h) :=
  m_J_aald hM hf hh hti (vp_in_nI hk (by omega)) (by rw [nI_clamp (by omega), hb]; exact hJ)
theorem m_iastN {f : Nat → Int32} {x : Int32} (hM : m_okM M = true) (hf : (m_tb M).lookup pc = some (.iastore, t)) (hh : h[a]? = some (.inl (0, n, .inl f))) (hk : k < n) (hn : n < 100000) (hJ : m_J l EX E M d mc ms PR PX tg kc ks (pc + 1, L, r, h.set a (.inl (0, n, .inl (upd f k x))))) : m_J l EX E M d mc ms PR PX tg kc ks (pc, L, .int x :: .int (nI k) :: .ref a :: r, h) :=
  m_J_iast hM hf hh (vp_in_nI hk (by omega)) (by rw [nI_clamp (by omega)]; exact hJ)
theorem m_bastN {f : Nat → Int32} {x : Int32} (hM : m_okM M = true) (hf : (m_tb M).lookup pc = some (.bastore, t)) (hh : h[a]? = some (.inl (2, n, .inl f))) (hk : k < n) (hn : n < 100000) (hJ : m_J l EX E M d mc ms PR PX tg kc ks (pc + 1, L, r, h.set a (.inl (2, n, .inl (upd f k (vp_nar .byte x)))))) : m_J l EX E M d mc ms PR PX tg kc ks (pc, L, .int x :: .int (nI k) :: .ref a :: r, h) :=
  m_J_bast hM hf hh (vp_in_nI hk (by omega)) (by rw [nI_clamp (by omega)]; exact hJ)
theorem m_zastN {f : Nat → Int32} {x : Int32} (hM : m_okM M = true) (hf : (m_tb M).lookup pc = some (.bastore, t)) (hh : h[a]? = some (.inl (3, n, .inl f))) (hk : k < n) (hn : n < 100000) (hJ : m_J l EX E M d mc ms PR PX tg kc ks (pc + 1, L, r, h.set a (.inl (3, n, .inl (upd f k (vp_nar .boolean x)))))) : m_J l EX E M d mc ms PR PX tg kc ks (pc, L, .int x :: .int (nI k) :: .ref a :: r, h) :=
  m_J_zast hM hf hh (vp_in_nI hk (by omega)) (by rw [nI_clamp (by omega)]; exact hJ)
theorem m_lastN {f : Nat → Int64} {x : Int64} (hM : m_okM M = true) (hf : (m_tb M).lookup pc = some (.lastore, t)) (hh : h[a]? = some (.inl (1, n, .inr (.inl f)))) (hk : k < n) (hn : n < 100000) (hJ : m_J l EX E M d mc ms PR PX tg kc ks (pc + 1, L, r, h.set a (.inl (1, n, .inr (.inl (vp_updL f k x)))))) : m_J l EX E M d mc ms PR PX tg kc ks (pc, L, .long x :: .int (nI k) :: .ref a :: r, h) :=
  m_J_last hM hf hh (vp_in_nI hk (by omega)) (by rw [nI_clamp (by omega)]; exact hJ)
end
theorem k_ne {h : mH} {a b : Nat} {x : Nat × List Value} {y : ClassId × vp_A} (ha : h[a]? = some (.inr x)) (hb : h[b]? = some (.inl y)) : a ≠ b := by
  intro e
  subst e
  rw [ha] at hb
  cases hb
theorem k_sn {h : mH} {a b : Nat} {c z : va_E} (hab : a ≠ b) (ha : h[a]? = some c) : (h.set b z)[a]? = some c := by rw [List.getElem?_set_ne (Ne.symm hab)]; exact ha
theorem k_ss {h : mH} {b : Nat} {c z : va_E} (hb : h[b]? = some c) : (h.set b z)[b]? = some z := List.getElem?_set_self (List.getElem?_eq_some_iff.mp hb).1
theorem k_s0 {h : mH} {b : Nat} {c : va_E} (hb : h[b]? = some c) : h.set b c = h := by
  apply List.ext_getElem?
  intro i
  by_cases hi : b = i
  · subst hi; rw [k_ss hb, hb]
  · rw [List.getElem?_set_ne hi]
theorem k_s2 (h : mH) (b : Nat) (x y : va_E) : (h.set b x).set b y = h.set b y := List.set_set x
/-- a long array -/
abbrev k_la (n : Nat) (f : Nat → Int64) : va_E := .inl (1, n, .inr (.inl f))
abbrev k_ia (n : Nat) (f : Nat → Int32) : va_E := .inl (0, n, .inl f)
abbrev k_ba (n : Nat) (f : Nat → Int32) : va_E := .inl (2, n, .inl f)
abbrev k_za (n : Nat) (f : Nat → Int32) : va_E := .inl (3, n, .inl f)
abbrev k_ra (t n : Nat) (f : Nat → Option Nat) : va_E := .inl (t, n, .inr (.inr (.inr (.inr f))))
/-- the first i places new -/
def k_upto {α : Type} (g f : Nat → α) (i : Nat) : Nat → α := fun j => if j < i then g j else f j
theorem k_upto_0 {α : Type} (g f : Nat → α) : k_upto g f 0 = f := by funext j; simp [k_upto]
theorem k_upto_L (g f : Nat → Int64) (i : Nat) : vp_updL (k_upto g f i) i (g i) = k_upto g f (i + 1) := by
  funext j
  unfold vp_updL k_upto
  by_cases h : j = i
  · subst h; simp
  · rw [if_neg h]
    by_cases h2 : j < i
    · rw [if_pos h2, if_pos (by omega)]
    · rw [if_neg h2, if_neg (by omega)]
theorem k_upto_I (g f : Nat → Int32) (i : Nat) : upd (k_upto g f i) i (g i) = k_upto g f (i + 1) := by
  funext j
  unfold upd k_upto
  by_cases h : j = i
  · subst h; simp
  · rw [if_neg h]
    by_cases h2 : j < i
    · rw [if_pos h2, if_pos (by omega)]
    · rw [if_neg h2, if_neg (by omega)]
theorem k_upto_ge {α : Type} (g f : Nat → α) {i j : Nat} (h : i ≤ j) : k_upto g f i j = f j := if_neg (by omega)
theorem k_upto_lt {α : Type} (g f : Nat → α) {i j : Nat} (h : j < i) : k_upto g f i j = g j := if_pos h
