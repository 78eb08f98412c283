/-! CONTRACTS WITH ONE END: what a method answers, and the heap behind it -/
def m_K (v : Option Value) (h : mH) (tg : Bool) : Option Value → mH → Bool → Prop := fun v' h' tg' => v' = v ∧ h' = h ∧ tg' = tg
def m_no : String → mH → Prop := fun _ _ => False
def m_nr : Option Value → mH → Bool → Prop := fun _ _ _ => False
def m_th (nm : String) (h : mH) : String → mH → Prop := fun nm' h' => nm' = nm ∧ h' = h
/-- it returns v, the heap is h1 -/
abbrev m_Dt (l : Launch) (EX : State → Prop) (E : mE) (M : mM) (d mc ms : Nat) (as : List Value) (h : mH) (tg : Bool) (v : Option Value) (h1 : mH) (tg1 : Bool) : Prop := m_Sp l EX E M d mc ms as h tg (m_K v h1 tg1) m_no
/-- it throws nm, the heap is h1 -/
abbrev m_Dx (l : Launch) (EX : State → Prop) (E : mE) (M : mM) (d mc ms : Nat) (as : List Value) (h : mH) (tg : Bool) (nm : String) (h1 : mH) : Prop := m_Sp l EX E M d mc ms as h tg m_nr (m_th nm h1)
section
variable {l : Launch} {EX : State → Prop} {E : mE} {M M' : mM} {d mc ms : Nat} {PR : Option Value → mH → Bool → Prop} {PX : String → mH → Prop} {tg tg1 : Bool} {kc ks : Nat} {pc t : Nat} {L : List (Option Value)} {h h1 : mH}
variable {mc' ms' i : Nat} {as rest st : List Value} {v : Option Value} {nm : String}
theorem m_callS (hEX : ∀ s U : State, s.WarmedH U.vm → EX s → EX U) (hM : m_okM M = true) (hf : (m_tb M).lookup pc = some (.invokestatic i, t)) {n0 : Nat} (hcw : m_cwS M.1.cls i M' n0 = true) (hn0 : as.length = n0) (hsp : m_Dt l EX E M' d mc' ms' as h tg v h1 tg1) (hst : st = as.reverse ++ rest) (hrs : (rest.map fun v => v.category).sum ≤ 40) (hc : kc + mc' ≤ mc) (hs : ks + ms' ≤ ms) (htg : tg1 = true → tg = true ∧ h.length + mc' ≤ h1.length)
    (hJ : m_J l EX E M (d + 1) mc ms PR PX tg1 (kc + mc') (ks + ms') (pc + 3, L, v.toList ++ rest, h1)) : m_J l EX E M (d + 1) mc ms PR PX tg kc ks (pc, L, st, h) :=
  m_J_callS hEX hM hf hcw hn0 hst hrs hc hs hsp (fun v' h' tg' hp => by obtain ⟨rfl, rfl, rfl⟩ := hp; exact ⟨htg, hJ⟩) (fun nm h' hp => hp.elim)
theorem m_callSx (hEX : ∀ s U : State, s.WarmedH U.vm → EX s → EX U) (hM : m_okM M = true) (hf : (m_tb M).lookup pc = some (.invokestatic i, t)) {n0 : Nat} (hcw : m_cwS M.1.cls i M' n0 = true) (hn0 : as.length = n0) (hsp : m_Dx l EX E M' d mc' ms' as h tg nm h1) (hst : st = as.reverse ++ rest) (hrs : (rest.map fun v => v.category).sum ≤ 40) (hc : kc + mc' ≤ mc) (hs : ks + ms' ≤ ms) (hh : M.2.2.2.2.1 = []) (hp : PX nm h1) : m_J l EX E M (d + 1) mc ms PR PX tg kc ks (pc, L, st, h) :=
  m_J_callS hEX hM hf hcw hn0 hst hrs hc hs hsp (fun v' h' tg' hp => hp.elim) (fun nm' h' hq => by obtain ⟨rfl, rfl⟩ := hq; exact m_JX_out hh hc hs hp)
theorem m_callV (hEX : ∀ s U : State, s.WarmedH U.vm → EX s → EX U) (hM : m_okM M = true) (hf : (m_tb M).lookup pc = some (.invokevirtual i, t)) {n0 : Nat} (hcw : m_cwV M.1.cls i M' n0 = true) (hn0 : as.length = n0) (hh0 : M'.2.2.2.2.1 = []) {b ci : Nat} {fs : List Value} (hob : h[b]? = some (.inr (ci, fs))) (hci : ∃ r, m_cl[ci]? = some r ∧ r.1 = M'.1.cls) (hsp : m_Dt l EX E M' d mc' ms' (.ref b :: as) h tg v h1 tg1) (hst : st = as.reverse ++ .ref b :: rest) (hrs : (rest.map fun v => v.category).sum ≤ 40) (hc : kc + mc' ≤ mc) (hs : ks + ms' ≤ ms) (htg : tg1 = true → tg = true ∧ h.length + mc' ≤ h1.length)
    (hJ : m_J l EX E M (d + 1) mc ms PR PX tg1 (kc + mc') (ks + ms') (pc + 3, L, v.toList ++ rest, h1)) : m_J l EX E M (d + 1) mc ms PR PX tg kc ks (pc, L, st, h) :=
  m_J_callV hEX hM hf hcw hn0 hh0 hst hob hci hrs hc hs hsp (fun v' h' tg' hp => by obtain ⟨rfl, rfl, rfl⟩ := hp; exact ⟨htg, hJ⟩) (fun nm h' hp => hp.elim)
theorem m_callVx (hEX : ∀ s U : State, s.WarmedH U.vm → EX s → EX U) (hM : m_okM M = true) (hf : (m_tb M).lookup pc = some (.invokevirtual i, t)) {n0 : Nat} (hcw : m_cwV M.1.cls i M' n0 = true) (hn0 : as.length = n0) (hh0 : M'.2.2.2.2.1 = []) {b ci : Nat} {fs : List Value} (hob : h[b]? = some (.inr (ci, fs))) (hci : ∃ r, m_cl[ci]? = some r ∧ r.1 = M'.1.cls) (hsp : m_Dx l EX E M' d mc' ms' (.ref b :: as) h tg nm h1) (hst : st = as.reverse ++ .ref b :: rest) (hrs : (rest.map fun v => v.category).sum ≤ 40) (hc : kc + mc' ≤ mc) (hs : ks + ms' ≤ ms) (hh : M.2.2.2.2.1 = []) (hp : PX nm h1) : m_J l EX E M (d + 1) mc ms PR PX tg kc ks (pc, L, st, h) :=
  m_J_callV hEX hM hf hcw hn0 hh0 hst hob hci hrs hc hs hsp (fun v' h' tg' hp => hp.elim) (fun nm' h' hq => by obtain ⟨rfl, rfl⟩ := hq; exact m_JX_out hh hc hs hp)
theorem m_callI (nest : Bool) (hEX : ∀ s U : State, s.WarmedH U.vm → EX s → EX U) (hM : m_okM M = true) (hf : (m_tb M).lookup pc = some (.invokespecial i, t)) {n0 : Nat} (hcw : (bif nest then m_cwN M.1.cls i M' n0 else m_cwI M.1.cls i M' n0) = true) (hn0 : as.length = n0) (hh0 : M'.2.2.2.2.1 = []) {b : Nat} (hsp : m_Dt l EX E M' d mc' ms' (.ref b :: as) h tg v h1 tg1) (hst : st = as.reverse ++ .ref b :: rest) (hrs : (rest.map fun v => v.category).sum ≤ 40) (hc : kc + mc' ≤ mc) (hs : ks + ms' ≤ ms) (htg : tg1 = true → tg = true ∧ h.length + mc' ≤ h1.length)
    (hJ : m_J l EX E M (d + 1) mc ms PR PX tg1 (kc + mc') (ks + ms') (pc + 3, L, v.toList ++ rest, h1)) : m_J l EX E M (d + 1) mc ms PR PX tg kc ks (pc, L, st, h) :=
  m_J_callI nest hEX hM hf hcw hn0 hh0 hst hrs hc hs hsp (fun v' h' tg' hp => by obtain ⟨rfl, rfl, rfl⟩ := hp; exact ⟨htg, hJ⟩)
theorem m_iret (hM : m_okM M = true) (hf : (m_tb M).lookup pc = some (.ireturn, t)) {v : Int32} {ty : FieldType} (hr : M.2.2.2.1 = some ty) (hn : narrow ty (.int v) = .int v) (hc : kc ≤ mc) (hs : ks ≤ ms) {w : Int32} (e : v = w) (eh : h = h1) : m_J l EX E M d mc ms (m_K (some (.int w)) h1 tg) PX tg kc ks (pc, L, [.int v], h) := by
  subst e; subst eh
  exact m_J_iret hM hf hr hn hc hs ⟨rfl, rfl, rfl⟩
theorem m_lret (hM : m_okM M = true) (hf : (m_tb M).lookup pc = some (.lreturn, t)) {v : Int64} (hr : M.2.2.2.1 = some .long) (hc : kc ≤ mc) (hs : ks ≤ ms) {w : Int64} (e : v = w) (eh : h = h1) : m_J l EX E M d mc ms (m_K (some (.long w)) h1 tg) PX tg kc ks (pc, L, [.long v], h) := by
  subst e; subst eh
  exact m_J_lret hM hf hr hc hs ⟨rfl, rfl, rfl⟩
theorem m_vret (hM : m_okM M = true) (hf : (m_tb M).lookup pc = some (.return_, t)) (hr : M.2.2.2.1 = none) (hc : kc ≤ mc) (hs : ks ≤ ms) (eh : h = h1) : m_J l EX E M d mc ms (m_K none h1 tg) PX tg kc ks (pc, L, [], h) := by
  subst eh
  exact m_J_vret hM hf hr hc hs ⟨rfl, rfl, rfl⟩
end
section
variable {l : Launch} {E : mE} {N : Nat} {xs : Nat → Int32} {M M' : mM} {d mc ms : Nat} {PR : Option Value → mH → Bool → Prop} {PX : String → mH → Prop} {tg tg1 : Bool} {kc ks : Nat} {pc t : Nat} {L : List (Option Value)} {h h1 : mH} {i si : Nat} {as rest st : List Value} {v : Option Value}
set_option maxHeartbeats 1000000 in
/-- a text's method -/
theorem m_callT (hM : m_okM M = true) (hf : (m_tb M).lookup pc = some (.invokevirtual i, t)) {n0 : Nat} (hcw : m_cwV M.1.cls i M' n0 = true) (hn0 : as.length = n0) (hh0 : M'.2.2.2.2.1 = []) (hcl9 : M'.1.cls = "java/lang/String") (hi : si < 42) (hsp : m_Dt l (m_EX E N xs) E M' d 0 0 (.ref (1000001 + si) :: as) h tg v h tg) (hst : st = as.reverse ++ .ref (1000001 + si) :: rest) (hrs : (rest.map fun v => v.category).sum ≤ 40) (hc : kc ≤ mc) (hs : ks ≤ ms)
    (hJ : m_J l (m_EX E N xs) E M (d + 1) mc ms PR PX tg kc ks (pc + 3, L, v.toList ++ rest, h)) : m_J l (m_EX E N xs) E M (d + 1) mc ms PR PX tg kc ks (pc, L, st, h) := by
  subst hst
  subst hn0
  have hEX := m_EX_warm E N xs
  have hd := m_dec1 hM hf rfl
  simp only [m_cwV, Bool.and_eq_true] at hcw
  obtain ⟨⟨⟨hcw, hl1⟩, hl2⟩, hl3⟩ := hcw
  obtain ⟨w1, w2, w3, w4, w5⟩ := m_cw0_spec hcw
  intro p e s m args below meth c H locs ls hX hR hz1 hz2 hlo hL T hT X
  have hb : decode c.code (F0 m pc ls ((as.reverse ++ .ref (1000001 + si) :: rest).map (m_v E))).pc = .ok (.invokevirtual i, 3) := by rw [hX.2.1]; exact hd
  have hK := m_vback (p := p) (e := e) (below := below) (mc := mc) (ms := ms) hX hEX hsp w1 w2 w3
  have hstk : (F0 m pc ls ((as.reverse ++ .ref (1000001 + si) :: rest).map (m_v E))).stack = (as.map (m_v E)).reverse ++ .ref (m_ad E (1000001 + si)) :: rest.map (m_v E) := by simp [m_v]
  have hcat : 2 * (F0 m pc ls ((as.reverse ++ .ref (1000001 + si) :: rest).map (m_v E))).monitorRoom + ((rest.map (m_v E)).map fun v => v.category).sum ≤ 40 := by
    have e0 : (rest.map (m_v E)).map (fun v => v.category) = rest.map (fun v => v.category) := by rw [List.map_map]; exact List.map_congr_left (fun v _ => m_cat E v)
    rw [e0]; simpa [JFrame.monitorRoom] using hrs
  have hpre : ∀ vm₁, s.WarmedH vm₁ → PreOf (m_rm (d + 1) mc ms) 0 0 (va_Pc ((Value.ref (1000001 + si) :: as).map (m_v E)) (fun U => m_R E tg h U.heap ∧ va_K E.2.2.1 m_cl (m_tys E) U ∧ m_EX E N xs U)) ⟨T.setVm vm₁, locs, kc, ks⟩ (Value.ref (m_ad E (1000001 + si)) :: as.map (m_v E)).toArray :=
    fun vm₁ hW₁ => ⟨hc, hs, rfl, by show m_R E tg h T.heap; rw [hT]; exact hR, va_K.moved (u := s) (U := T.setVm vm₁) hW₁.alike hX.2.2.2.2.2.2.1, hEX s (T.setVm vm₁) hW₁ hX.2.2.2.2.2.2.2.2.2.2.1⟩
  have hcode := m_mem_tbl hX (m_in_mem w1) args s (State.WarmedH.refl s)
  have hO := m_va_O_kept (m_va_O_kept (hX.2.2.2.2.2.2.2.2.2.2.1.2.2.2.2.2.2.2.1 si hi).1 (m_keep hX)) (fun a h1 h2 => (m_S hX hR hz1 hlo).2.1 a h1 h2)
  obtain ⟨cellB, hcB, hoB, hclB, -⟩ := hO
  obtain ⟨y, bytes, maxL, ret, hh, o, tb⟩ := M'
  dsimp only at hh0 hcl9
  subst hh0
  refine m_after (l := l) (R := m_rm (d + 1) mc ms) (rest := rest) (c := c) (meth := meth) (args := args) (ks := ks) (mc' := 0) (ms' := 0) (PR' := m_K v h tg) (PX' := m_no) hz1 hz2 hlo hT (fun v' h' tg' hp => ?_) (fun nm h' hp => hp.elim) (aa := (Value.ref (m_ad E (1000001 + si)) :: as.map (m_v E)).toArray) ?_
  · obtain ⟨rfl, rfl, rfl⟩ := hp
    refine ⟨fun ht => ⟨ht, Nat.le_refl _⟩, fun H1 locs1 a1 a2 a3 a4 => ?_⟩
    exact hJ p e s m args below meth c H1 locs1 ls hX a1 a2 a3 a4 hL
  · exact vx_callV X hX.1 (C := y.cls) (bytes := bytes) (maxL := maxL) (ret := ret) hX.2.2.2.2.1 (hX.2.2.2.2.2.1 _ (m_in_mem hl1)) (hX.2.2.2.2.2.1 _ (m_in_mem hl2)) (hX.2.2.2.2.2.1 _ (m_in_mem hl3)) hcode w5 hK (by rw [hT, m_ext (by omega)]; exact hcB) hoB (by rw [hcl9]; exact hclB) rfl (hL.1.trans hX.2.2.2.1.symm) (argsL := as.map (m_v E)) (fun sig hs => by rw [List.length_map]; exact w4 sig hs) hstk hcat hb hpre
end
