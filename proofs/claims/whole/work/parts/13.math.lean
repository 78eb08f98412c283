/-! Math.max, min, abs: rows of the kit -/
theorem m_wmax : m_w1 mM_J9_max_7cf53 = .code Lib.Math.max.name Lib.Math.max.code 2 (some .int) := by decide +kernel
theorem m_wmin : m_w1 mM_J9_min_7cf53 = .code Lib.Math.min.name Lib.Math.min.code 2 (some .int) := by decide +kernel
theorem m_wabs : m_w1 mM_J9_abs_0f7a4 = .code Lib.Math.abs.name Lib.Math.abs.code 1 (some .int) := by decide +kernel
theorem m_ymax : yJ9_max_7cf53 = Lib.Math.max.name := by decide +kernel
theorem m_ymin : yJ9_min_7cf53 = Lib.Math.min.name := by decide +kernel
theorem m_yabs : yJ9_abs_0f7a4 = Lib.Math.abs.name := by decide +kernel
section
variable {l : Launch} {EX : State → Prop} {E : mE} {M : mM} {d mc ms : Nat} {PR : Option Value → mH → Bool → Prop} {PX : String → mH → Prop} {tg : Bool} {kc ks : Nat} {pc t : Nat} {L : List (Option Value)} {h : mH} {i : Nat} {rest : List Value} {x y : Int32}
theorem m_rest_ok (hrs : (rest.map fun v => v.category).sum ≤ 40) : ((rest.map (m_v E)).map fun v => v.category).sum + 13 ≤ (m_rm d mc ms).locals := by
  have e0 : (rest.map (m_v E)).map (fun v => v.category) = rest.map (fun v => v.category) := by rw [List.map_map]; exact List.map_congr_left (fun v _ => m_cat E v)
  rw [e0]; simp [m_rm]; omega
theorem m_max (hM : m_okM M = true) (hf : (m_tb M).lookup pc = some (.invokestatic i, t)) (hcw : m_cwS M.1.cls i mM_J9_max_7cf53 2 = true) (hrs : (rest.map fun v => v.category).sum ≤ 40) (hc : kc ≤ mc) (hs : ks ≤ ms) (hJ : m_J l EX E M d mc ms PR PX tg kc ks (pc + 3, L, .int (if x < y then y else x) :: rest, h)) : m_J l EX E M d mc ms PR PX tg kc ks (pc, L, .int y :: .int x :: rest, h) := by
  simp only [m_cwS, Bool.and_eq_true] at hcw
  obtain ⟨⟨hcw, hl1⟩, hl2⟩ := hcw
  obtain ⟨w1, w2, -, -, -⟩ := m_cw0_spec hcw
  rw [m_wmax] at w1
  have hl1 : m_in (.methodLink M.1.cls i Lib.Math.max.name) = true := by rw [← m_ymax]; exact hl1
  have hl2 : m_in (.static Lib.Math.max.name) = true := by rw [← m_ymax]; exact hl2
  intro p e s m args below meth c H locs ls hX hR hz1 hz2 hlo hL
  exact va_mmax hX.1 hX.2.1 (hX.2.2.2.1.trans hL.1.symm) hX.2.2.2.2.1 (hX.2.2.2.2.2.1 _ (m_in_mem hl1)) (hX.2.2.2.2.2.1 _ (m_in_mem hl2)) (hX.2.2.2.2.2.1 _ (m_in_mem w2)) (hX.2.2.2.2.2.1 _ (m_in_mem w1)) (by simp [m_rm]; omega) (m_rest_ok hrs) hc hs (m_dec1 hM hf rfl) (hJ p e s m args below meth c H locs ls hX hR hz1 hz2 hlo hL)
theorem m_min (hM : m_okM M = true) (hf : (m_tb M).lookup pc = some (.invokestatic i, t)) (hcw : m_cwS M.1.cls i mM_J9_min_7cf53 2 = true) (hrs : (rest.map fun v => v.category).sum ≤ 40) (hc : kc ≤ mc) (hs : ks ≤ ms) (hJ : m_J l EX E M d mc ms PR PX tg kc ks (pc + 3, L, .int (if y < x then y else x) :: rest, h)) : m_J l EX E M d mc ms PR PX tg kc ks (pc, L, .int y :: .int x :: rest, h) := by
  simp only [m_cwS, Bool.and_eq_true] at hcw
  obtain ⟨⟨hcw, hl1⟩, hl2⟩ := hcw
  obtain ⟨w1, w2, -, -, -⟩ := m_cw0_spec hcw
  rw [m_wmin] at w1
  have hl1 : m_in (.methodLink M.1.cls i Lib.Math.min.name) = true := by rw [← m_ymin]; exact hl1
  have hl2 : m_in (.static Lib.Math.min.name) = true := by rw [← m_ymin]; exact hl2
  intro p e s m args below meth c H locs ls hX hR hz1 hz2 hlo hL
  exact va_mmin hX.1 hX.2.1 (hX.2.2.2.1.trans hL.1.symm) hX.2.2.2.2.1 (hX.2.2.2.2.2.1 _ (m_in_mem hl1)) (hX.2.2.2.2.2.1 _ (m_in_mem hl2)) (hX.2.2.2.2.2.1 _ (m_in_mem w2)) (hX.2.2.2.2.2.1 _ (m_in_mem w1)) (by simp [m_rm]; omega) (m_rest_ok hrs) hc hs (m_dec1 hM hf rfl) (hJ p e s m args below meth c H locs ls hX hR hz1 hz2 hlo hL)
theorem m_abs (hM : m_okM M = true) (hf : (m_tb M).lookup pc = some (.invokestatic i, t)) (hcw : m_cwS M.1.cls i mM_J9_abs_0f7a4 1 = true) (hrs : (rest.map fun v => v.category).sum ≤ 40) (hc : kc ≤ mc) (hs : ks ≤ ms) (hJ : m_J l EX E M d mc ms PR PX tg kc ks (pc + 3, L, .int (if 0 ≤ x then x else 0 - x) :: rest, h)) : m_J l EX E M d mc ms PR PX tg kc ks (pc, L, .int x :: rest, h) := by
  simp only [m_cwS, Bool.and_eq_true] at hcw
  obtain ⟨⟨hcw, hl1⟩, hl2⟩ := hcw
  obtain ⟨w1, w2, -, -, -⟩ := m_cw0_spec hcw
  rw [m_wabs] at w1
  have hl1 : m_in (.methodLink M.1.cls i Lib.Math.abs.name) = true := by rw [← m_yabs]; exact hl1
  have hl2 : m_in (.static Lib.Math.abs.name) = true := by rw [← m_yabs]; exact hl2
  intro p e s m args below meth c H locs ls hX hR hz1 hz2 hlo hL
  exact va_mabs hX.1 hX.2.1 (hX.2.2.2.1.trans hL.1.symm) hX.2.2.2.2.1 (hX.2.2.2.2.2.1 _ (m_in_mem hl1)) (hX.2.2.2.2.2.1 _ (m_in_mem hl2)) (hX.2.2.2.2.2.1 _ (m_in_mem w2)) (hX.2.2.2.2.2.1 _ (m_in_mem w1)) (by simp [m_rm]; omega) (m_rest_ok hrs) hc hs (m_dec1 hM hf rfl) (hJ p e s m args below meth c H locs ls hX hR hz1 hz2 hlo hL)
end
