/-! CONSTRUCTORS -/
theorem kc_int : m_in (.arrayClass .int) = true := by decide +kernel
theorem kc_long : m_in (.arrayClass .long) = true := by decide +kernel
theorem kc_byte : m_in (.arrayClass .byte) = true := by decide +kernel
theorem kc_bool : m_in (.arrayClass .boolean) = true := by decide +kernel
theorem kl_X0_9 : m_in (.classLink RX0 9 "LandUses$Line") = true := by decide +kernel
theorem kl_X8_32 : m_in (.classLink RX8 32 "LandUses$Uses") = true := by decide +kernel
theorem kl_X1_22 : m_in (.classLink RX1 22 ("[" ++ (FieldType.array .long).toString)) = true := by decide +kernel
section
variable {l : Launch} {EX : State → Prop} {E : mE} {M : mM} {d mc ms : Nat} {PR : Option Value → mH → Bool → Prop} {PX : String → mH → Prop} {tg : Bool} {kc ks : Nat} {pc t : Nat} {L : List (Option Value)} {h : mH} {st : List Value}
theorem m_J_putc {c k n a i : Nat} {fs : List Value} {v : Value} {r : List Value} (hM : m_okM M = true) (hf : (m_tb M).lookup pc = some (.putfield i, t)) (hft : m_FT.lookup (M.2.2.2.2.2.1, i) = some (c, k, n)) (hh : h[a]? = some (.inr (c, fs))) (hok : (Nat.blt k fs.length && m_fit (m_tyf c k) v) = true) (hin : (decide (M.1.name = "<init>") && (n == 0) && (m_owns.getD M.2.2.2.2.2.1 "" == ((m_cl.getD c (RX0, TX0, 2)).2.1 k).1)) = true) (hJ : m_J l EX E M d mc ms PR PX tg kc ks (pc + 3, L, r, h.set a (.inr (c, fs.set k v)))) : m_J l EX E M d mc ms PR PX tg kc ks (pc, L, v :: .ref a :: r, h) := by
  refine m_J_step (CC := True) hM ?_ trivial hJ
  simp only [Bool.and_eq_true] at hok
  simp only [m_step, hf, m_ins, hft, hh, hok.1, hok.2, hin, beq_self_eq_true, Bool.and_true, Bool.true_and, Bool.or_true, cond_true]
theorem m_newI {K : Nat} (hM : m_okM M = true) (hf : (m_tb M).lookup pc = some (.newarray .int, t)) (hK : K < 100000) (hlen : h.length < 1000000) (hc : kc + 1 ≤ mc) (hs : ks + K ≤ ms) (hJ : m_J l EX E M d mc ms PR PX true (kc + 1) (ks + K) (pc + 2, L, .ref h.length :: st, h ++ [k_ia K (fun _ => nI 0)])) : m_J l EX E M d mc ms PR PX true kc ks (pc, L, .int (nI K) :: st, h) :=
  m_J_newa (ti := 0) (N := K) (a0 := (K, .inl (fun _ => nI 0))) hM hf kc_int rfl (fun _ => rfl) rfl (nI_pos (by omega)) (nI_clamp (by omega)) (by show K * 4 ≤ _; omega) (fun _ _ h => h) hlen hc hs hJ
theorem m_newL {K : Nat} (hM : m_okM M = true) (hf : (m_tb M).lookup pc = some (.newarray .long, t)) (hK : K < 100000) (hlen : h.length < 1000000) (hc : kc + 1 ≤ mc) (hs : ks + K ≤ ms) (hJ : m_J l EX E M d mc ms PR PX true (kc + 1) (ks + K) (pc + 2, L, .ref h.length :: st, h ++ [k_la K (fun _ => 0)])) : m_J l EX E M d mc ms PR PX true kc ks (pc, L, .int (nI K) :: st, h) :=
  m_J_newa (ti := 1) (N := K) (a0 := (K, .inr (.inl (fun _ => 0)))) hM hf kc_long rfl (fun _ => rfl) rfl (nI_pos (by omega)) (nI_clamp (by omega)) (by show K * 8 ≤ _; omega) (fun _ _ h => h) hlen hc hs hJ
theorem m_newB {K : Nat} (hM : m_okM M = true) (hf : (m_tb M).lookup pc = some (.newarray .byte, t)) (hK : K < 100000) (hlen : h.length < 1000000) (hc : kc + 1 ≤ mc) (hs : ks + K ≤ ms) (hJ : m_J l EX E M d mc ms PR PX true (kc + 1) (ks + K) (pc + 2, L, .ref h.length :: st, h ++ [k_ba K (fun _ => nI 0)])) : m_J l EX E M d mc ms PR PX true kc ks (pc, L, .int (nI K) :: st, h) :=
  m_J_newa (ti := 2) (N := K) (a0 := (K, .inl (fun _ => nI 0))) hM hf kc_byte rfl (fun _ => rfl) rfl (nI_pos (by omega)) (nI_clamp (by omega)) (by show K * 1 ≤ _; omega) (fun _ _ h => h) hlen hc hs hJ
theorem m_newZ {K : Nat} (hM : m_okM M = true) (hf : (m_tb M).lookup pc = some (.newarray .boolean, t)) (hK : K < 100000) (hlen : h.length < 1000000) (hc : kc + 1 ≤ mc) (hs : ks + K ≤ ms) (hJ : m_J l EX E M d mc ms PR PX true (kc + 1) (ks + K) (pc + 2, L, .ref h.length :: st, h ++ [k_za K (fun _ => nI 0)])) : m_J l EX E M d mc ms PR PX true kc ks (pc, L, .int (nI K) :: st, h) :=
  m_J_newa (ti := 3) (N := K) (a0 := (K, .inl (fun _ => nI 0))) hM hf kc_bool rfl (fun _ => rfl) rfl (nI_pos (by omega)) (nI_clamp (by omega)) (by show K * 1 ≤ _; omega) (fun _ _ h => h) hlen hc hs hJ
theorem m_newC {ci K i : Nat} {fs : List Value} (hM : m_okM M = true) (hf : (m_tb M).lookup pc = some (.new i, t)) (hw : m_nw M.1.cls i ci = true) (hN : (m_cl.getD ci (RX0, TX0, 2)).2.2 = K) (hfs : fs = (List.range K).map (fun k => defaultValue (m_tyf ci k))) (hnr : (List.range K).all (fun k => match defaultValue (m_tyf ci k) with
      | .ref _ => false
      | _ => true) = true) (hlen : h.length < 1000000) (hc : kc + 1 ≤ mc) (hs : ks + K ≤ ms)
    (hJ : m_J l EX E M d mc ms PR PX true (kc + 1) (ks + K) (pc + 3, L, .ref h.length :: st, h ++ [.inr (ci, fs)])) : m_J l EX E M d mc ms PR PX true kc ks (pc, L, st, h) := m_J_new hM hf hw hN hfs hnr hlen hc hs hJ
theorem m_aastN {ti n k b a ci : Nat} {f : Nat → Option Nat} {fs : List Value} {r : List Value} (hM : m_okM M = true) (hf : (m_tb M).lookup pc = some (.aastore, t)) (hh : h[a]? = some (.inl (ti, n, .inr (.inr (.inr (.inr f)))))) (hb : h[b]? = some (.inr (ci, fs))) (hti : (ti = 4 ∧ ci = 2) ∨ (ti = 5 ∧ ci = 6)) (hk : k < n) (hn : n < 100000) (hJ : m_J l EX E M d mc ms PR PX tg kc ks (pc + 1, L, r, h.set a (.inl (ti, n, .inr (.inr (.inr (.inr (va_up f k (some b))))))))) : m_J l EX E M d mc ms PR PX tg kc ks (pc, L, .ref b :: .int (nI k) :: .ref a :: r, h) := by
  refine m_J_step hM ?_ (vp_in_nI hk (by omega)) (S' := (pc + 1, L, r, h.set a (.inl (ti, n, .inr (.inr (.inr (.inr (va_up f k (some b)))))))) ) hJ
  rcases hti with ⟨rfl, rfl⟩ | ⟨rfl, rfl⟩ <;> simp [m_step, hf, m_ins, hh, hb, nI_clamp (show k < 2147483648 by omega)]
end
/-- the old cells stand, but z -/
def k_ex (z : Nat) (h H : mH) : Prop := h.length ≤ H.length ∧ ∀ k, k < h.length → k ≠ z → H[k]? = h[k]?
theorem k_ex_r (z : Nat) (h : mH) : k_ex z h h := ⟨Nat.le_refl _, fun _ _ _ => rfl⟩
theorem k_ex_a {z : Nat} {h H : mH} (x : List va_E) (hx : k_ex z h H) : k_ex z h (H ++ x) := ⟨by rw [List.length_append]; have := hx.1; omega, fun k hk hz => by rw [List.getElem?_append_left (Nat.lt_of_lt_of_le hk hx.1)]; exact hx.2 k hk hz⟩
theorem k_ex_s {z k : Nat} {h H : mH} {c : va_E} (hx : k_ex z h H) (hk : k = z ∨ h.length ≤ k) : k_ex z h (H.set k c) := ⟨by rw [List.length_set]; exact hx.1, fun j hj hz => by rw [List.getElem?_set_ne (by omega)]; exact hx.2 j hj hz⟩
/-- a call upon a new cell -/
theorem k_ex_c {z y : Nat} {h H K : mH} (hx : k_ex z h H) (h2 : k_ex y H K) (hy : y = z ∨ h.length ≤ y) : k_ex z h K := ⟨Nat.le_trans hx.1 h2.1, fun k hk hz => (h2.2 k (Nat.lt_of_lt_of_le hk hx.1) (by omega)).trans (hx.2 k hk hz)⟩
theorem k_ol {h : mH} {k : Nat} {c : va_E} (x : List va_E) (hk : h[k]? = some c) : (h ++ x)[k]? = some c := by rw [List.getElem?_append_left (List.getElem?_eq_some_iff.mp hk).1]; exact hk
theorem k_nw (h : mH) (c : va_E) : (h ++ [c])[h.length]? = some c := by simp
theorem k_oe {z k : Nat} {h H : mH} {c : va_E} (hx : k_ex z h H) (hk : h[k]? = some c) (hz : k ≠ z) : H[k]? = some c := by rw [hx.2 k (List.getElem?_eq_some_iff.mp hk).1 hz]; exact hk
theorem k_lt {h : mH} {k : Nat} {c : va_E} (hk : h[k]? = some c) : k < h.length := (List.getElem?_eq_some_iff.mp hk).1
def k_u0 : Nat → Int64 := vp_updL (fun _ => 0) 0 1152921504606846975
def k_q0 : kL := (0, 0, 0, 0, 0, 0, nI 0)
section
variable {l : Launch} {E : mE} {N : Nat} {xs : Nat → Int32} {d : Nat} {h : mH} {z : Nat}
theorem c_uses {v0 : Value} (hz : h[z]? = some (.inr (6, [v0]))) (hl : h.length < 900000) : m_Sp l (m_EX E N xs) E mM_X7_init d 1 5 [.ref z] h true (fun v H tg' => v = none ∧ tg' = true ∧ H.length = h.length + 1 ∧ k_ex z h H ∧ H[z]? = some (k_uses h.length) ∧ H[h.length]? = some (k_la 5 k_u0)) m_no := by
  have hM := mM_X7_init_ok
  refine m_Sp_of (by decide) (Nat.le_of_ble_eq_true rfl) ?_
  have hzl := k_lt hz
  refine m_J_run hM 1 rfl ⟨trivial, trivial⟩ ?_
  refine m_J_obj hM rfl kw_X7_3 (Nat.le_of_ble_eq_true rfl) ?_
  refine m_J_run hM 2 rfl ⟨trivial, trivial, trivial⟩ ?_
  refine m_newL (K := 5) hM rfl (by omega) (by omega) (Nat.le_refl _) (Nat.le_refl _) ?_
  refine m_J_putc hM rfl rfl (k_ol _ hz) (rfl) (by decide) ?_
  refine m_J_run hM 1 rfl ⟨trivial, trivial⟩ ?_
  refine m_J_getf hM rfl rfl (k_ss (k_ol _ hz)) (rfl) ?_
  refine m_J_run hM 2 rfl ⟨trivial, trivial, trivial⟩ ?_
  refine m_lastN hM rfl (k_sn (show h.length ≠ z by omega) (k_nw h _)) (by omega) (by omega) ?_
  refine m_J_vret hM rfl rfl (Nat.le_refl _) (Nat.le_refl _) ⟨rfl, rfl, by simp, k_ex_s (k_ex_s (k_ex_a _ (k_ex_r _ _)) (Or.inl rfl)) (Or.inr (Nat.le_refl _)), k_sn (by omega) (k_ss (k_ol _ hz)), k_ss (k_sn (show h.length ≠ z by omega) (k_nw h _))⟩
theorem c_tape {v0 v1 : Value} (hz : h[z]? = some (.inr (5, [v0, v1]))) (hl : h.length < 900000) : m_Sp l (m_EX E N xs) E mM_X6_init d 1 400 [.ref z] h true (fun v H tg' => v = none ∧ tg' = true ∧ H.length = h.length + 1 ∧ k_ex z h H ∧ H[z]? = some (k_tp h.length 0) ∧ H[h.length]? = some (k_ba 400 (fun _ => nI 0))) m_no := by
  have hM := mM_X6_init_ok
  refine m_Sp_of (by decide) (Nat.le_of_ble_eq_true rfl) ?_
  have hzl := k_lt hz
  refine m_J_run hM 1 rfl ⟨trivial, trivial⟩ ?_
  refine m_J_obj hM rfl kw_X6_3 (Nat.le_of_ble_eq_true rfl) ?_
  refine m_J_run hM 2 rfl ⟨trivial, trivial, trivial⟩ ?_
  refine m_newB (K := 400) hM rfl (by omega) (by omega) (Nat.le_refl _) (Nat.le_refl _) ?_
  refine m_J_putc hM rfl rfl (k_ol _ hz) (rfl) (by decide) ?_
  refine m_J_run hM 2 rfl ⟨trivial, trivial, trivial⟩ ?_
  refine m_J_putc hM rfl rfl (k_ss (k_ol _ hz)) (rfl) (by decide) ?_
  refine m_J_vret hM rfl rfl (Nat.le_refl _) (Nat.le_refl _) ⟨rfl, rfl, by simp, k_ex_s (k_ex_s (k_ex_a _ (k_ex_r _ _)) (Or.inl rfl)) (Or.inl rfl), k_ss (k_ss (k_ol _ hz)), k_sn (show h.length ≠ z by omega) (k_sn (show h.length ≠ z by omega) (k_nw h _))⟩
theorem c_reader {v0 v1 v2 : Value} {tp : Nat} (hz : h[z]? = some (.inr (3, [v0, v1, v2]))) : m_Sp l (m_EX E N xs) E mM_X3_init d 0 0 [.ref z, .ref tp] h true (fun v H tg' => v = none ∧ tg' = true ∧ H.length = h.length ∧ k_ex z h H ∧ H[z]? = some (k_rd tp 0 (-nI 1))) m_no := by
  have hM := mM_X3_init_ok
  refine m_Sp_of (by decide) (Nat.le_of_ble_eq_true rfl) ?_
  have hzl := k_lt hz
  refine m_J_run hM 1 rfl ⟨trivial, trivial⟩ ?_
  refine m_J_obj hM rfl kw_X3_3 (Nat.le_of_ble_eq_true rfl) ?_
  refine m_J_run hM 2 rfl ⟨trivial, trivial, trivial⟩ ?_
  refine m_J_putc hM rfl rfl (hz) (rfl) (by decide) ?_
  refine m_J_run hM 2 rfl ⟨trivial, trivial, trivial⟩ ?_
  refine m_J_putc hM rfl rfl (k_ss hz) (rfl) (by decide) ?_
  refine m_J_run hM 2 rfl ⟨trivial, trivial, trivial⟩ ?_
  refine m_J_putc hM rfl rfl (k_ss (k_ss hz)) (rfl) (by decide) ?_
  refine m_J_vret hM rfl rfl (Nat.le_refl _) (Nat.le_refl _) ⟨rfl, rfl, by simp, k_ex_s (k_ex_s (k_ex_s (k_ex_r _ _) (Or.inl rfl)) (Or.inl rfl)) (Or.inl rfl), k_ss (k_ss (k_ss hz))⟩
theorem c_line : m_Sp l (m_EX E N xs) E mM_X2_init d 0 0 [.ref z] h true (fun v H tg' => v = none ∧ tg' = true ∧ H = h) m_no := by
  have hM := mM_X2_init_ok
  refine m_Sp_of (by decide) (Nat.le_of_ble_eq_true rfl) ?_
  refine m_J_run hM 1 rfl ⟨trivial, trivial⟩ ?_
  refine m_J_obj hM rfl kw_X2_1 (Nat.le_of_ble_eq_true rfl) ?_
  exact m_J_vret hM rfl rfl (Nat.le_refl _) (Nat.le_refl _) ⟨rfl, rfl, rfl⟩
end
