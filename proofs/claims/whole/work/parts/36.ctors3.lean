/-! CONSTRUCTORS: the heap behind them, word for word -/
theorem k_ext {h H x : mH} {z : Nat} {c : va_E} (hz : z < h.length) (hl : H.length = h.length + x.length) (hx : k_ex z h H) (hc : H[z]? = some c) (hn : ∀ j, j < x.length → H[h.length + j]? = x[j]?) : H = h.set z c ++ x := by
  apply List.ext_getElem?
  intro i
  by_cases hi : i < h.length
  · rw [List.getElem?_append_left (by rw [List.length_set]; exact hi)]
    by_cases e : i = z
    · subst e
      rw [hc, List.getElem?_set_self hi]
    · rw [List.getElem?_set_ne (Ne.symm e)]
      exact hx.2 i hi e
  · rw [List.getElem?_append_right (by rw [List.length_set]; omega), List.length_set]
    by_cases h2 : i - h.length < x.length
    · rw [← hn _ h2, show h.length + (i - h.length) = i by omega]
    · rw [List.getElem?_eq_none (by omega), List.getElem?_eq_none (by omega)]
theorem k_e_uses {h H : mH} {z : Nat} (hz : z < h.length) (hp : H.length = h.length + 1 ∧ k_ex z h H ∧ H[z]? = some (k_uses h.length) ∧ H[h.length]? = some (k_la 5 k_u0)) : H = h.set z (k_uses h.length) ++ [k_la 5 k_u0] :=
  k_ext hz hp.1 hp.2.1 hp.2.2.1 (fun j hj => by have : j = 0 := by simp at hj; omega
                                                subst this; exact hp.2.2.2)
theorem k_e_tape {h H : mH} {z : Nat} (hz : z < h.length) (hp : H.length = h.length + 1 ∧ k_ex z h H ∧ H[z]? = some (k_tp h.length 0) ∧ H[h.length]? = some (k_ba 400 (fun _ => nI 0))) : H = h.set z (k_tp h.length 0) ++ [k_ba 400 (fun _ => nI 0)] :=
  k_ext hz hp.1 hp.2.1 hp.2.2.1 (fun j hj => by have : j = 0 := by simp at hj; omega
                                                subst this; exact hp.2.2.2)
theorem k_e_reader {h H : mH} {z tp : Nat} (hz : z < h.length) (hp : H.length = h.length ∧ k_ex z h H ∧ H[z]? = some (k_rd tp 0 (-nI 1))) : H = h.set z (k_rd tp 0 (-nI 1)) := by
  have := k_ext (x := []) hz hp.1 hp.2.1 hp.2.2 (fun j hj => absurd hj (by simp))
  rw [List.append_nil] at this
  exact this
theorem k_e_book {h H : mH} {z : Nat} (hz : z < h.length) (hp : H.length = h.length + 15 ∧ k_ex z h H ∧ k_BK H z h.length (fun i => h.length + 1 + i) 0 (fun _ => k_q0)) : H = h.set z (.inr (0, [.ref h.length, .int (nI 0)])) ++ (k_ra 4 14 (k_rws (fun i => h.length + 1 + i)) :: List.replicate 14 (k_ln k_q0)) := by
  refine k_ext hz (by rw [hp.1]; rfl) hp.2.1 hp.2.2.1 (fun j hj => ?_)
  cases j with
  | zero => exact hp.2.2.2.1
  | succ j =>
    have hj2 : j < 14 := by simp at hj; omega
    rw [List.getElem?_cons_succ, List.getElem?_replicate, if_pos hj2, show h.length + (j + 1) = h.length + 1 + j by omega]
    exact hp.2.2.2.2.1 j hj2
theorem k_e_land {h H : mH} {z : Nat} (hz : z < h.length) (hp : H.length = h.length + 10 ∧ k_ex z h H ∧ k_LD H z h.length (h.length + 1) (h.length + 2) (h.length + 3) (k_w0 h.length) k_u0 (fun _ => nI 0)) : H = h.set z (.inr (1, [.ref h.length, .ref (h.length + 2), .ref (h.length + 3)])) ++ [k_uses (h.length + 1), k_la 5 k_u0, k_ia 60 (fun _ => nI 0), k_ra 6 6 (k_arows (k_w0 h.length)), k_la 60 (k_arow 0), k_la 60 (k_arow 1), k_la 60 (k_arow 2), k_la 60 (k_arow 3), k_la 60 (k_arow 4), k_la 60 (k_arow 5)] := by
  obtain ⟨h1, h2, a1, a2, a3, a4, a5, a6⟩ := hp
  refine k_ext hz (by rw [h1]; rfl) h2 a1 (fun j hj => ?_)
  match j with
  | 0 => exact a2
  | 1 => exact a3
  | 2 => exact a4
  | 3 => exact a5
  | 4 => exact a6 0 (by omega)
  | 5 => exact a6 1 (by omega)
  | 6 => exact a6 2 (by omega)
  | 7 => exact a6 3 (by omega)
  | 8 => exact a6 4 (by omega)
  | 9 => exact a6 5 (by omega)
  | j + 10 => exact absurd hj (by simp)
section
variable {l : Launch} {E : mE} {N : Nat} {xs : Nat → Int32} {d : Nat} {h : mH} {z : Nat}
theorem c_land2 {v0 v1 v2 : Value} {g u s r : Nat} (hz : h[z]? = some (.inr (1, [v0, v1, v2]))) (hg : h[g]? = some (.inr (1, [.ref u, .ref s, .ref r]))) (hgz : g ≠ z) (hl : h.length < 800000) : m_Dt l (m_EX E N xs) E mM_X1_init_ (d + 1) 2 6 [.ref z, .ref g] h true none (h.set z (.inr (1, [.ref h.length, .ref s, .ref r])) ++ [k_uses (h.length + 1), k_la 5 k_u0]) true := by
  have hM := mM_X1_init__ok
  refine m_Sp_of (by decide) (Nat.le_of_ble_eq_true rfl) ?_
  have hzl := k_lt hz
  have hgl := k_lt hg
  refine m_J_run hM 1 rfl ⟨trivial, trivial⟩ ?_
  refine m_J_obj hM rfl kw_X1_3 (Nat.le_of_ble_eq_true rfl) ?_
  refine m_J_run hM 1 rfl ⟨trivial, trivial⟩ ?_
  refine m_newC (ci := 6) (K := 1) (fs := [.null]) hM rfl kn_X1_9 rfl rfl rfl (by omega) (by omega) (by omega) ?_
  refine m_J_run hM 1 rfl ⟨trivial, trivial⟩ ?_
  refine m_J_callI false (as := []) (rest := [.ref h.length, .ref z]) (m_EX_warm E N xs) hM rfl kw_X1_11 rfl rfl rfl (Nat.le_of_ble_eq_true rfl) (by first | exact Nat.le_of_ble_eq_true rfl | omega) (by first | exact Nat.le_of_ble_eq_true rfl | omega) (c_uses (k_nw h _) (by simp; omega)) (fun v9 h9 tg9 hp9 => ?_)
  obtain ⟨rfl, rfl, hp9⟩ := hp9
  refine ⟨fun _ => ⟨rfl, by rw [hp9.1]; exact Nat.le_refl _⟩, ?_⟩
  have e9 := k_e_uses (by simp) hp9
  have e8 : h9 = h ++ [k_uses (h.length + 1), k_la 5 k_u0] := by
    rw [e9]
    simp [List.set_append_right]
  clear e9 hp9
  subst e8
  refine m_J_putc hM rfl rfl (k_ol _ hz) (rfl) (by decide) ?_
  refine m_J_run hM 2 rfl ⟨trivial, trivial, trivial⟩ ?_
  refine m_J_getf hM rfl rfl (k_sn hgz (k_ol _ hg)) (rfl) ?_
  refine m_J_putc hM rfl rfl (k_ss (k_ol _ hz)) (rfl) (by decide) ?_
  refine m_J_run hM 2 rfl ⟨trivial, trivial, trivial⟩ ?_
  rw [k_s2]
  refine m_J_getf hM rfl rfl (k_sn hgz (k_ol _ hg)) (rfl) ?_
  refine m_J_putc hM rfl rfl (k_ss (k_ol _ hz)) (rfl) (by decide) ?_
  rw [k_s2]
  refine m_vret hM rfl rfl (Nat.le_of_ble_eq_true rfl) (Nat.le_of_ble_eq_true rfl) ?_
  rw [List.set_append_left _ _ hzl]
  rfl
theorem c_search {f0 f1 f2 f3 f4 f5 f6 f7 : Value} {g bk u s r : Nat} (hz : h[z]? = some (.inr (4, [f0, f1, f2, f3, f4, f5, f6, f7]))) (hg : h[g]? = some (.inr (1, [.ref u, .ref s, .ref r]))) (hl : h.length < 700000) : m_Dt l (m_EX E N xs) E mM_X4_init (d + 2) 7 34 [.ref z, .ref g, .ref bk] h true none (h.set z (k_so h.length (h.length + 3) (h.length + 4) (h.length + 6) bk 0 false (nI 0)) ++ [.inr (1, [.ref (h.length + 1), .ref s, .ref r]), k_uses (h.length + 2), k_la 5 k_u0, k_ia 5 (fun _ => nI 0), k_uses (h.length + 5), k_la 5 k_u0, k_ia 14 (fun _ => nI 0)]) true := by
  have hM := mM_X4_init_ok
  refine m_Sp_of (by decide) (Nat.le_of_ble_eq_true rfl) ?_
  have hzl := k_lt hz
  have hgl := k_lt hg
  refine m_J_run hM 1 rfl ⟨trivial, trivial⟩ ?_
  refine m_J_obj hM rfl kw_X4_3 (Nat.le_of_ble_eq_true rfl) ?_
  refine m_J_run hM 1 rfl ⟨trivial, trivial⟩ ?_
  refine m_newC (ci := 1) (K := 3) (fs := [.null, .null, .null]) hM rfl kn_X4_9 rfl rfl rfl (by omega) (by omega) (by omega) ?_
  refine m_J_run hM 2 rfl ⟨trivial, trivial, trivial⟩ ?_
  refine m_callI false (as := [.ref g]) (rest := [.ref h.length, .ref z]) (m_EX_warm E N xs) hM rfl kw_X4_11 rfl rfl (c_land2 (k_nw h _) (k_ol _ hg) (by omega) (by simp; omega)) rfl (Nat.le_of_ble_eq_true rfl) (Nat.le_of_ble_eq_true rfl) (Nat.le_of_ble_eq_true rfl) (fun _ => ⟨rfl, by simp⟩) ?_
  refine m_J_eqH (H' := h ++ [.inr (1, [.ref (h.length + 1), .ref s, .ref r]), k_uses (h.length + 2), k_la 5 k_u0]) (by simp [List.set_append_right]) ?_
  refine m_J_putc hM rfl rfl (k_ol _ hz) (rfl) (by decide) ?_
  rw [List.set_append_left _ _ hzl]
  refine m_J_run hM 2 rfl ⟨trivial, trivial, trivial⟩ ?_
  refine m_newI (K := 5) hM rfl (by omega) (by simp; omega) (by omega) (by omega) ?_
  refine m_J_putc hM rfl rfl (k_ol _ (k_ol _ (k_ss hz))) (rfl) (by decide) ?_
  rw [List.append_assoc, List.set_append_left _ _ (by rw [List.length_set]; exact hzl), k_s2]
  refine m_J_run hM 1 rfl ⟨trivial, trivial⟩ ?_
  refine m_newC (ci := 6) (K := 1) (fs := [.null]) hM rfl kn_X4_24 rfl rfl rfl (by simp; omega) (by omega) (by omega) ?_
  refine m_J_run hM 1 rfl ⟨trivial, trivial⟩ ?_
  refine m_J_callI false (as := []) (rest := [.ref _, .ref z]) (m_EX_warm E N xs) hM rfl kw_X4_26 rfl rfl rfl (Nat.le_of_ble_eq_true rfl) (by first | exact Nat.le_of_ble_eq_true rfl | omega) (by first | exact Nat.le_of_ble_eq_true rfl | omega) (c_uses (k_nw _ _) (by simp; omega)) (fun v9 h9 tg9 hp9 => ?_)
  obtain ⟨rfl, rfl, hp9⟩ := hp9
  refine ⟨fun _ => ⟨rfl, by rw [hp9.1]; exact Nat.le_refl _⟩, ?_⟩
  have e9 := k_e_uses (by simp) hp9
  clear hp9
  have e8 : h9 = h.set z (.inr (4, [.ref h.length, .ref (h.length + 3), f2, f3, f4, f5, f6, f7])) ++ [.inr (1, [.ref (h.length + 1), .ref s, .ref r]), k_uses (h.length + 2), k_la 5 k_u0, k_ia 5 (fun _ => nI 0), k_uses (h.length + 5), k_la 5 k_u0] := by
    rw [e9]
    simp [List.set_append_right, List.append_assoc]
  clear e9
  subst e8
  have hz1 : ∀ c, (h.set z c)[z]? = some c := fun c => k_ss hz
  have hs1 : ∀ (c c' : va_E) (x : List va_E), (h.set z c ++ x).set z c' = h.set z c' ++ x := fun c c' x => by rw [List.set_append_left _ _ (by rw [List.length_set]; exact hzl), k_s2]
  simp only [List.length_append, List.length_set, List.length_cons, List.length_nil]
  refine m_J_putc hM rfl rfl (k_ol _ (hz1 _)) (rfl) (by decide) ?_
  rw [hs1]
  refine m_J_run hM 2 rfl ⟨trivial, trivial, trivial⟩ ?_
  refine m_newI (K := 14) hM rfl (by omega) (by simp; omega) (by omega) (by omega) ?_
  simp only [List.length_append, List.length_set, List.length_cons, List.length_nil]
  refine m_J_putc hM rfl rfl (k_ol _ (k_ol _ (hz1 _))) (rfl) (by decide) ?_
  rw [List.append_assoc, hs1]
  refine m_J_run hM 2 rfl ⟨trivial, trivial, trivial⟩ ?_
  refine m_J_putc hM rfl rfl (k_ol _ (hz1 _)) (rfl) (by decide) ?_
  rw [hs1]
  refine m_J_run hM 2 rfl ⟨trivial, trivial, trivial⟩ ?_
  refine m_J_putc hM rfl rfl (k_ol _ (hz1 _)) (rfl) (by decide) ?_
  rw [hs1]
  refine m_J_run hM 2 rfl ⟨trivial, trivial, trivial⟩ ?_
  refine m_J_putc hM rfl rfl (k_ol _ (hz1 _)) (rfl) (by decide) ?_
  rw [hs1]
  refine m_J_run hM 2 rfl ⟨trivial, trivial, trivial⟩ ?_
  refine m_J_putc hM rfl rfl (k_ol _ (hz1 _)) (rfl) (by decide) ?_
  rw [hs1]
  refine m_vret hM rfl rfl (Nat.le_of_ble_eq_true rfl) (Nat.le_of_ble_eq_true rfl) ?_
  rfl
end
