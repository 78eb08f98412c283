/-! SEVERAL STEPS AT ONCE -/
def m_run (M : mM) : Nat → mS → Option (mS × Prop)
  | 0, S => some (S, True)
  | n + 1, S => match m_step M S with
    | none => none
    | some (S', C) => match m_run M n S' with
      | none => none
      | some (S'', C') => some (S'', C ∧ C')
theorem m_J_run {l : Launch} {EX : State → Prop} {E : mE} {M : mM} {d mc ms : Nat} {PR : Option Value → mH → Bool → Prop} {PX : String → mH → Prop} {tg : Bool} {kc ks : Nat} (hM : m_okM M = true) : ∀ (n : Nat) {S S' : mS} {CC : Prop}, m_run M n S = some (S', CC) → CC → m_J l EX E M d mc ms PR PX tg kc ks S' → m_J l EX E M d mc ms PR PX tg kc ks S := by
  intro n
  induction n with
  | zero =>
    intro S S' CC hs _ hJ
    cases hs
    exact hJ
  | succ n ih =>
    intro S S' CC hs hC hJ
    unfold m_run at hs
    split at hs
    · cases hs
    · rename_i S1 C1 h1
      split at hs
      · cases hs
      · rename_i S2 C2 h2
        cases hs
        exact m_J_step hM h1 hC.1 (ih h2 hC.2 hJ)
section
variable {l : Launch} {EX : State → Prop} {E : mE} {M : mM} {d mc ms : Nat} {PR : Option Value → mH → Bool → Prop} {PX : String → mH → Prop} {tg : Bool} {kc ks : Nat} {pc t : Nat} {L : List (Option Value)} {h : mH} {r : List Value} {a i : Nat}
theorem m_J_getf {c k n : Nat} {fs : List Value} {v : Value} (hM : m_okM M = true) (hf : (m_tb M).lookup pc = some (.getfield i, t)) (hft : m_FT.lookup (M.2.2.2.2.2.1, i) = some (c, k, n)) (hh : h[a]? = some (.inr (c, fs))) (hv : fs[k]? = some v) (hJ : m_J l EX E M d mc ms PR PX tg kc ks (pc + 3, L, v :: r, h)) : m_J l EX E M d mc ms PR PX tg kc ks (pc, L, .ref a :: r, h) := by
  refine m_J_step (CC := True) hM ?_ trivial hJ
  simp only [m_step, hf, m_ins, hft, hh, hv, beq_self_eq_true, cond_true]
theorem m_J_putf {c k n : Nat} {fs : List Value} {v : Value} (hM : m_okM M = true) (hf : (m_tb M).lookup pc = some (.putfield i, t)) (hft : m_FT.lookup (M.2.2.2.2.2.1, i) = some (c, k, n)) (hh : h[a]? = some (.inr (c, fs))) (hok : (Nat.blt k fs.length && m_fit (m_tyf c k) v && !(m_fin c k)) = true) (hJ : m_J l EX E M d mc ms PR PX tg kc ks (pc + 3, L, r, h.set a (.inr (c, fs.set k v)))) : m_J l EX E M d mc ms PR PX tg kc ks (pc, L, v :: .ref a :: r, h) := by
  refine m_J_step (CC := True) hM ?_ trivial hJ
  simp only [Bool.and_eq_true] at hok
  simp only [m_step, hf, m_ins, hft, hh, hok.1.1, hok.1.2, hok.2, beq_self_eq_true, Bool.and_true, Bool.true_and, Bool.true_or, cond_true]
theorem m_J_iald {n : Nat} {f : Nat → Int32} {j : Int32} (hM : m_okM M = true) (hf : (m_tb M).lookup pc = some (.iaload, t)) (hh : h[a]? = some (.inl (0, n, .inl f))) (hin : vp_in j n) (hJ : m_J l EX E M d mc ms PR PX tg kc ks (pc + 1, L, .int (f j.toNatClampNeg) :: r, h)) : m_J l EX E M d mc ms PR PX tg kc ks (pc, L, .int j :: .ref a :: r, h) := by
  refine m_J_step hM ?_ hin hJ
  simp only [m_step, hf, m_ins, hh]
theorem m_J_bald {n : Nat} {f : Nat → Int32} {j : Int32} (hM : m_okM M = true) (hf : (m_tb M).lookup pc = some (.baload, t)) (hh : h[a]? = some (.inl (2, n, .inl f))) (hin : vp_in j n) (hJ : m_J l EX E M d mc ms PR PX tg kc ks (pc + 1, L, .int (f j.toNatClampNeg) :: r, h)) : m_J l EX E M d mc ms PR PX tg kc ks (pc, L, .int j :: .ref a :: r, h) := by
  refine m_J_step hM ?_ hin hJ
  simp only [m_step, hf, m_ins, hh]
theorem m_J_zald {n : Nat} {f : Nat → Int32} {j : Int32} (hM : m_okM M = true) (hf : (m_tb M).lookup pc = some (.baload, t)) (hh : h[a]? = some (.inl (3, n, .inl f))) (hin : vp_in j n) (hJ : m_J l EX E M d mc ms PR PX tg kc ks (pc + 1, L, .int (f j.toNatClampNeg) :: r, h)) : m_J l EX E M d mc ms PR PX tg kc ks (pc, L, .int j :: .ref a :: r, h) := by
  refine m_J_step hM ?_ hin hJ
  simp only [m_step, hf, m_ins, hh]
theorem m_J_lald {n : Nat} {f : Nat → Int64} {j : Int32} (hM : m_okM M = true) (hf : (m_tb M).lookup pc = some (.laload, t)) (hh : h[a]? = some (.inl (1, n, .inr (.inl f)))) (hin : vp_in j n) (hJ : m_J l EX E M d mc ms PR PX tg kc ks (pc + 1, L, .long (f j.toNatClampNeg) :: r, h)) : m_J l EX E M d mc ms PR PX tg kc ks (pc, L, .int j :: .ref a :: r, h) := by
  refine m_J_step hM ?_ hin hJ
  simp only [m_step, hf, m_ins, hh]
theorem m_J_aald {n ti : Nat} {f : Nat → Option Nat} {j : Int32} (hM : m_okM M = true) (hf : (m_tb M).lookup pc = some (.aaload, t)) (hh : h[a]? = some (.inl (ti, n, .inr (.inr (.inr (.inr f)))))) (hti : (Nat.ble 4 ti && Nat.ble ti 6) = true) (hin : vp_in j n) (hJ : m_J l EX E M d mc ms PR PX tg kc ks (pc + 1, L, m_rf (f j.toNatClampNeg) :: r, h)) : m_J l EX E M d mc ms PR PX tg kc ks (pc, L, .int j :: .ref a :: r, h) := by
  refine m_J_step hM ?_ hin hJ
  simp only [m_step, hf, m_ins, hh, hti, cond_true]
theorem m_J_iast {n : Nat} {f : Nat → Int32} {j x : Int32} (hM : m_okM M = true) (hf : (m_tb M).lookup pc = some (.iastore, t)) (hh : h[a]? = some (.inl (0, n, .inl f))) (hin : vp_in j n) (hJ : m_J l EX E M d mc ms PR PX tg kc ks (pc + 1, L, r, h.set a (.inl (0, n, .inl (upd f j.toNatClampNeg x))))) : m_J l EX E M d mc ms PR PX tg kc ks (pc, L, .int x :: .int j :: .ref a :: r, h) := by
  refine m_J_step hM ?_ hin hJ
  simp only [m_step, hf, m_ins, hh]
theorem m_J_bast {n : Nat} {f : Nat → Int32} {j x : Int32} (hM : m_okM M = true) (hf : (m_tb M).lookup pc = some (.bastore, t)) (hh : h[a]? = some (.inl (2, n, .inl f))) (hin : vp_in j n) (hJ : m_J l EX E M d mc ms PR PX tg kc ks (pc + 1, L, r, h.set a (.inl (2, n, .inl (upd f j.toNatClampNeg (vp_nar .byte x)))))) : m_J l EX E M d mc ms PR PX tg kc ks (pc, L, .int x :: .int j :: .ref a :: r, h) := by
  refine m_J_step hM ?_ hin hJ
  simp only [m_step, hf, m_ins, hh]
theorem m_J_zast {n : Nat} {f : Nat → Int32} {j x : Int32} (hM : m_okM M = true) (hf : (m_tb M).lookup pc = some (.bastore, t)) (hh : h[a]? = some (.inl (3, n, .inl f))) (hin : vp_in j n) (hJ : m_J l EX E M d mc ms PR PX tg kc ks (pc + 1, L, r, h.set a (.inl (3, n, .inl (upd f j.toNatClampNeg (vp_nar .boolean x)))))) : m_J l EX E M d mc ms PR PX tg kc ks (pc, L, .int x :: .int j :: .ref a :: r, h) := by
  refine m_J_step hM ?_ hin hJ
  simp only [m_step, hf, m_ins, hh]
theorem m_J_last {n : Nat} {f : Nat → Int64} {j : Int32} {x : Int64} (hM : m_okM M = true) (hf : (m_tb M).lookup pc = some (.lastore, t)) (hh : h[a]? = some (.inl (1, n, .inr (.inl f)))) (hin : vp_in j n) (hJ : m_J l EX E M d mc ms PR PX tg kc ks (pc + 1, L, r, h.set a (.inl (1, n, .inr (.inl (vp_updL f j.toNatClampNeg x)))))) : m_J l EX E M d mc ms PR PX tg kc ks (pc, L, .long x :: .int j :: .ref a :: r, h) := by
  refine m_J_step hM ?_ hin hJ
  simp only [m_step, hf, m_ins, hh]
theorem m_J_alen {n ti : Nat} {f : Nat → Int32} (hM : m_okM M = true) (hf : (m_tb M).lookup pc = some (.arraylength, t)) (hh : h[a]? = some (.inl (ti, n, .inl f))) (hti : (ti == 0 || ti == 2) = true) (hJ : m_J l EX E M d mc ms PR PX tg kc ks (pc + 1, L, .int (Int32.ofNat n) :: r, h)) : m_J l EX E M d mc ms PR PX tg kc ks (pc, L, .ref a :: r, h) := by
  refine m_J_step (CC := True) hM ?_ trivial hJ
  simp only [m_step, hf, m_ins, hh, hti, cond_true]
/-- a branch -/
theorem m_J_if {c : Prop} {hdc : Decidable c} {S1 S2 : mS} (h1 : c → m_J l EX E M d mc ms PR PX tg kc ks S1) (h2 : ¬ c → m_J l EX E M d mc ms PR PX tg kc ks S2) : m_J l EX E M d mc ms PR PX tg kc ks (if c then S1 else S2) := by
  by_cases hc : c
  · rw [if_pos hc]; exact h1 hc
  · rw [if_neg hc]; exact h2 hc
end
