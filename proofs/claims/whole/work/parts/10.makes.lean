/-! CONSTRUCTORS AND NEW CELLS of the small machine -/
section
variable {l : Launch} {EX : State → Prop} {E : mE} {M M' : mM} {d mc ms : Nat} {PR : Option Value → mH → Bool → Prop} {PX : String → mH → Prop} {tg : Bool} {kc ks : Nat} {pc t : Nat} {L : List (Option Value)} {h : mH}
variable {mc' ms' i : Nat} {as rest st : List Value} {PR' : Option Value → mH → Bool → Prop}
theorem m_back0 {p : Program} {e : Env} {R : Room} {below : List Frame} {s : State} {sargs : Array Value} {y : MethodName} {len W9 : Nat} {Pre : Pt → Array Value → Prop} {Post : Pt → Array Value → Option Value → Pt → Prop} {PostX : Pt → Array Value → Addr → Pt → Prop} (h : vx_Back l R p e below s sargs y len W9 Pre Post PostX) (hX : ∀ A a q B, ¬ PostX A a q B) : Back l R p e below s sargs y len W9 Pre Post := by
  intro m meth c A g ig mk a X hg hsize hdg hW hn hp
  rcases h m meth c A g ig mk a X hg hsize hdg hW hn hp with h1 | ⟨q, B, -, h2, -⟩
  · exact h1
  · exact (hX _ _ _ _ h2).elim
set_option maxHeartbeats 1000000 in
theorem m_J_callI (nest : Bool) (hEX : ∀ s U : State, s.WarmedH U.vm → EX s → EX U) (hM : m_okM M = true) (hf : (m_tb M).lookup pc = some (.invokespecial i, t)) {n0 : Nat} (hcw : (bif nest then m_cwN M.1.cls i M' n0 else m_cwI M.1.cls i M' n0) = true) (hn0 : as.length = n0) (hh0 : M'.2.2.2.2.1 = []) {b : Nat} (hst : st = as.reverse ++ .ref b :: rest) (hrs : (rest.map fun v => v.category).sum ≤ 40) (hc : kc + mc' ≤ mc) (hs : ks + ms' ≤ ms)
    (hsp : m_Sp l EX E M' d mc' ms' (.ref b :: as) h tg PR' (fun _ _ => False))
    (kR : ∀ v h' tg', PR' v h' tg' → (tg' = true → tg = true ∧ h.length + mc' ≤ h'.length) ∧ m_J l EX E M (d + 1) mc ms PR PX tg' (kc + mc') (ks + ms') (pc + 3, L, v.toList ++ rest, h')) : m_J l EX E M (d + 1) mc ms PR PX tg kc ks (pc, L, st, h) := by
  subst hst
  subst hn0
  obtain ⟨n, hd1, hn1, -, -⟩ := m_dec hM hf
  have hd : decode M.2.1 pc = .ok (.invokespecial i, 3) := by rw [hd1, hn1 rfl]; rfl
  have hcw2 : m_cw0 M' as.length = true ∧ m_in (.instanceMethod M'.1) = true ∧ M'.1.name = "<init>" ∧ M'.2.2.2.1 = none ∧ (nest = false → m_in (.methodLink M.1.cls i M'.1) = true) ∧ (nest = true → m_in (.methodLinkNest M.1.cls i M'.1 "LandUses") = true) := by
    cases nest with
    | false =>
      simp only [cond_false, m_cwI, Bool.and_eq_true, decide_eq_true_eq] at hcw
      exact ⟨hcw.1.1.1.1, hcw.1.1.2, hcw.1.2, hcw.2, fun _ => hcw.1.1.1.2, fun h => by cases h⟩
    | true =>
      simp only [cond_true, m_cwN, Bool.and_eq_true, decide_eq_true_eq] at hcw
      exact ⟨hcw.1.1.1.1, hcw.1.1.2, hcw.1.2, hcw.2, (fun h => by cases h), fun _ => hcw.1.1.1.2⟩
  obtain ⟨hcw, hl2, hini, hret, hlk, hln⟩ := hcw2
  obtain ⟨w1, w2, w3, w4, w5⟩ := m_cw0_spec hcw
  intro p e s m args below meth c H locs ls hX hR hz1 hz2 hlo hL T hT X
  have hb : decode c.code (F0 m pc ls ((as.reverse ++ .ref b :: rest).map (m_v E))).pc = .ok (.invokespecial i, 3) := by rw [hX.2.1]; exact hd
  have hK := m_back0 (m_vback (p := p) (e := e) (below := below) (mc := mc) (ms := ms) hX hEX hsp w1 w2 w3) (fun A a q B hp => by
    obtain ⟨_, _, _, _, _, _, _, _, ⟨⟨_, hf, _⟩, _⟩, _⟩ := hp
    exact hf)
  have hstk : (F0 m pc ls ((as.reverse ++ .ref b :: rest).map (m_v E))).stack = (as.map (m_v E)).reverse ++ .ref (m_ad E b) :: rest.map (m_v E) := by simp [m_v]
  have hcat : 2 * (F0 m pc ls ((as.reverse ++ .ref b :: rest).map (m_v E))).monitorRoom + ((rest.map (m_v E)).map fun v => v.category).sum ≤ 40 := by
    have e0 : (rest.map (m_v E)).map (fun v => v.category) = rest.map (fun v => v.category) := by rw [List.map_map]; exact List.map_congr_left (fun v _ => m_cat E v)
    rw [e0]; simpa [JFrame.monitorRoom] using hrs
  have hpre : ∀ vm₁, s.WarmedH vm₁ → PreOf (m_rm (d + 1) mc ms) mc' ms' (va_Pc ((Value.ref b :: as).map (m_v E)) (fun U => m_R E tg h U.heap ∧ va_K E.2.2.1 m_cl (m_tys E) U ∧ EX U)) ⟨T.setVm vm₁, locs, kc, ks⟩ (Value.ref (m_ad E b) :: as.map (m_v E)).toArray :=
    fun vm₁ hW₁ => ⟨hc, hs, rfl, by show m_R E tg h T.heap; rw [hT]; exact hR, va_K.moved (u := s) (U := T.setVm vm₁) hW₁.alike hX.2.2.2.2.2.2.1, hEX s (T.setVm vm₁) hW₁ hX.2.2.2.2.2.2.2.2.2.2.1⟩
  have hcode := m_mem_tbl hX (m_in_mem w1) args s (State.WarmedH.refl s)
  obtain ⟨y, bytes, maxL, ret, hh, o, tb⟩ := M'
  dsimp only at hh0 hret
  subst hh0
  subst hret
  refine m_after (mc' := mc') (ms' := ms') (PR' := PR') (PX' := fun _ _ => False) hz1 hz2 hlo hT (fun v h' tg' hp => ⟨(kR v h' tg' hp).1, fun H1 locs1 a1 a2 a3 a4 => (kR v h' tg' hp).2 p e s m args below meth c H1 locs1 ls hX a1 a2 a3 a4 hL⟩) (fun nm h' hp => hp.elim) (aa := (Value.ref (m_ad E b) :: as.map (m_v E)).toArray) (Or.inl ?_)
  cases nest with
  | false => exact callI X hX.1 (bytes := bytes) (maxL := maxL) hX.2.2.2.2.1 hini (hX.2.2.2.2.2.1 _ (m_in_mem (hlk rfl))) (hX.2.2.2.2.2.1 _ (m_in_mem hl2)) hcode w5 hK rfl (hL.1.trans hX.2.2.2.1.symm) (argsL := as.map (m_v E)) (fun sig hs => by rw [List.length_map]; exact w4 sig hs) hstk hcat hb hpre
  | true => exact va_callIN X hX.1 (bytes := bytes) (maxL := maxL) hX.2.2.2.2.1 hini (hX.2.2.2.2.2.1 _ (m_in_mem (hln rfl))) (hX.2.2.2.2.2.1 _ (m_in_mem hl2)) hcode w5 hK rfl (hL.1.trans hX.2.2.2.1.symm) (argsL := as.map (m_v E)) (fun sig hs => by rw [List.length_map]; exact w4 sig hs) hstk hcat hb hpre
/-- Object's own constructor -/
theorem m_J_obj (hM : m_okM M = true) (hf : (m_tb M).lookup pc = some (.invokespecial i, t)) (hw : m_oi M.1.cls i = true) {b : Nat} (hrs : (rest.map fun v => v.category).sum ≤ 40) (hJ : m_J l EX E M d mc ms PR PX tg kc ks (pc + 3, L, rest, h)) : m_J l EX E M d mc ms PR PX tg kc ks (pc, L, .ref b :: rest, h) := by
  obtain ⟨n, hd1, hn1, -, -⟩ := m_dec hM hf
  have hd : decode M.2.1 pc = .ok (.invokespecial i, 3) := by rw [hd1, hn1 rfl]; rfl
  simp only [m_oi, Bool.and_eq_true] at hw
  intro p e s m args below meth c H locs ls hX hR hz1 hz2 hlo hL
  refine W.objInit (idx := i) (a := m_ad E b) (rest := rest.map (m_v E)) hX.1 hX.2.1 hX.2.2.2.2.1 (hX.2.2.2.2.2.1 _ (m_in_mem hw.1.1)) (hX.2.2.2.2.2.1 _ (m_in_mem hw.1.2)) (hX.2.2.2.2.2.1 _ (m_in_mem hw.2)) rfl (hL.1.trans hX.2.2.2.1.symm) rfl hd (by simp [m_rm]; omega) ?_ (hJ p e s m args below meth c H locs ls hX hR hz1 hz2 hlo hL)
  have e0 : (rest.map (m_v E)).map (fun v => v.category) = rest.map (fun v => v.category) := by rw [List.map_map]; exact List.map_congr_left (fun v _ => m_cat E v)
  rw [e0]
  simp [JFrame.monitorRoom, m_rm]; omega
/-- the heap with one cell more -/
theorem m_R_push {H H1 : Heap} {x : va_E} (hR : m_R E true h H) (hlen : h.length < 1000000) (hz : H1.size = H.size + 1) (ho : ∀ q, q < H.size → H1[q]? = H[q]?) (hx : va_at E.2.2.1 m_cl (H.size, m_c E x) H1) : m_R E true (h ++ [x]) H1 := by
  have e0 : H.size = E.1 + h.length := Nat.le_antisymm (hR.2.2.1 rfl) hR.2.1
  refine ⟨fun k q hq => ?_, by rw [List.length_append]; simp; omega, fun _ => by rw [List.length_append]; simp; omega, fun q hq => ?_, by rw [List.length_append]; simp; omega, hR.2.2.2.2.2⟩
  · have hk : k < h.length + 1 := by
      have := (List.getElem?_eq_some_iff.mp hq).1
      simpa [m_W] using this
    simp only [m_W, List.getElem?_mapIdx] at hq
    by_cases hkl : k < h.length
    · rw [List.getElem?_append_left hkl] at hq
      have hg : (m_W E h)[k]? = some q := by simp only [m_W, List.getElem?_mapIdx]; exact hq
      have h9 := hR.1 k q hg
      exact h9.kept (ho _ h9.lt)
    · have hke : k = h.length := by omega
      subst hke
      rw [List.getElem?_append_right (Nat.le_refl _)] at hq
      simp at hq
      subst hq
      have ea : m_ad E h.length = H.size := by simp [m_ad, hlen, e0]
      rw [ea]
      exact hx
  · rw [ho q (by omega)]; exact hR.2.2.2.1 q hq
def m_df : FieldType → Value
  | .int | .boolean | .byte | .char | .short => .int 0
  | .long => .long 0
  | .float => .float 0
  | .double => .double 0
  | _ => .null
/-- a new object -/
theorem m_J_new {ci N : Nat} {fs : List Value} (hM : m_okM M = true) (hf : (m_tb M).lookup pc = some (.new i, t)) (hw : m_nw M.1.cls i ci = true) (hN : (m_cl.getD ci (RX0, TX0, 2)).2.2 = N) (hfs : fs = (List.range N).map (fun k => defaultValue (m_tyf ci k))) (hnr : (List.range N).all (fun k => match defaultValue (m_tyf ci k) with
      | .ref _ => false
      | _ => true) = true) (hlen : h.length < 1000000) (hc : kc + 1 ≤ mc) (hs : ks + N ≤ ms)
    (hJ : m_J l EX E M d mc ms PR PX true (kc + 1) (ks + N) (pc + 3, L, .ref h.length :: st, h ++ [.inr (ci, fs)])) : m_J l EX E M d mc ms PR PX true kc ks (pc, L, st, h) := by
  obtain ⟨n, hd1, hn1, -, -⟩ := m_dec hM hf
  have hd : decode M.2.1 pc = .ok (.new i, 3) := by rw [hd1, hn1 rfl]; rfl
  unfold m_nw at hw
  cases hq : m_cl[ci]? with
  | none => rw [hq] at hw; cases hw
  | some r =>
    rw [hq] at hw
    simp only [Bool.and_eq_true] at hw
    rw [List.getD_eq_getElem?_getD, hq] at hN
    have hN : r.2.2 = N := hN
    obtain ⟨C, TT, N'⟩ := r
    dsimp only at hN hw
    subst hN
    obtain ⟨hty, hnm, hin⟩ := m_cl_spec hq
    intro p e s m args below meth c H locs ls hX hR hz1 hz2 hlo hL
    have hKn := hX.2.2.2.2.2.2.1.1 ci _ hq
    have e0 : H.size = E.1 + h.length := Nat.le_antisymm (hR.2.2.1 rfl) hR.2.1
    refine W.newcK hX.1 hX.2.1 hX.2.2.2.2.1 (hX.2.2.2.2.2.1 _ (m_in_mem hw.1.1)) (hX.2.2.2.2.2.1 _ (m_in_mem hw.1.2)) (hX.2.2.2.2.2.1 _ (m_in_mem hw.2)) rfl hd hc hs hKn.2.1 rfl fun H1 kC hkC e1 z1 o1 => ?_
    have ea : m_ad E h.length = H.size := by simp [m_ad, hlen, e0]
    have hx : va_at E.2.2.1 m_cl (H.size, m_c E (.inr (ci, fs))) H1 := by
      refine ⟨_, hq, (u_born (m_tyf ci) hX.2.2.2.2.2.1 hin hKn hkC e1 hty).to (fun j hj => ?_)⟩
      simp only [vp_V, hfs]
      have hall := List.all_eq_true.mp hnr j (List.mem_range.mpr hj)
      rw [List.getD_eq_getElem?_getD, List.getElem?_map, List.getElem?_map, List.getElem?_range hj]
      simp only [Option.map_some, Option.getD_some]
      cases hdv : defaultValue (m_tyf ci j) <;> first | rfl | (rw [hdv] at hall; cases hall)
    have hz9 : s.heap.size + kc ≤ E.1 + h.length := hz2 rfl
    have hw9 : W p l e (m_rm d mc ms) s m args below meth c H1 locs (kc + 1) (ks + N') (vx_MQ below (m_Qc E PR) (m_XC E PX) args s mc ms (fun q => E.1 ≤ q)) (F0 m (pc + 3) ls (.ref (m_ad E h.length) :: st.map (m_v E))) := hJ p e s m args below meth c H1 locs ls hX (m_R_push hR hlen z1 o1 hx) (by rw [z1]; omega) (fun _ => by rw [List.length_append]; simp; omega) hlo hL
    rw [ea] at hw9
    exact hw9
/-- a new array of numbers -/
theorem m_J_newa {at0 : ArrayType} {ti N : Nat} {n : Int32} {a0 : vp_A} (hM : m_okM M = true) (hf : (m_tb M).lookup pc = some (.newarray at0, t)) (hw : m_in (.arrayClass (newarray.typeOf at0)) = true) (hti : m_ty[ti]? = some (newarray.typeOf at0)) (ha : ∀ cA : ClassId, vp_cell cA a0 = arrV cA N (fun _ => defaultValue (newarray.typeOf at0)))
    (hac : m_c E (.inl (ti, a0)) = .inl (E.2.2.2.1 ti, a0)) (hn : ¬ n < 0) (hN : n.toNatClampNeg = N) (hbytes : N * componentBytes (newarray.typeOf at0) ≤ 536870912) (hprim : ∀ U cA, va_RA U cA (newarray.typeOf at0) → U.vm.findClass ("[" ++ (newarray.typeOf at0).toString) = some cA) (hlen : h.length < 1000000) (hc : kc + 1 ≤ mc) (hs : ks + N ≤ ms)
    (hJ : m_J l EX E M d mc ms PR PX true (kc + 1) (ks + N) (pc + 2, L, .ref h.length :: st, h ++ [.inl (ti, a0)])) : m_J l EX E M d mc ms PR PX true kc ks (pc, L, .int n :: st, h) := by
  obtain ⟨n9, hd1, hn1, -, -⟩ := m_dec hM hf
  have hd : decode M.2.1 pc = .ok (.newarray at0, 2) := by rw [hd1, hn1 rfl]; rfl
  intro p e s m args below meth c H locs ls hX hR hz1 hz2 hlo hL
  have e0 : H.size = E.1 + h.length := Nat.le_antisymm (hR.2.2.1 rfl) hR.2.1
  refine va_newaK hX.1 hX.2.1 (hX.2.2.2.2.2.1 _ (m_in_mem hw)) rfl hd rfl hn hN hbytes hc hs rfl fun H1 cA e1 z1 o1 hAr hNm => ?_
  have ea : m_ad E h.length = H.size := by simp [m_ad, hlen, e0]
  have hcA : E.2.2.2.1 ti = cA := Option.some.inj ((hprim s _ (hX.2.2.2.2.2.2.1.2 ti _ (m_tys_get E hti)).2).symm.trans hNm)
  have hx : va_at E.2.2.1 m_cl (H.size, m_c E (.inl (ti, a0))) H1 := by
    rw [hac, hcA]
    show H1[H.size]? = some (vp_cell cA a0)
    rw [ha]
    exact e1
  have hz9 : s.heap.size + kc ≤ E.1 + h.length := hz2 rfl
  have hw9 : W p l e (m_rm d mc ms) s m args below meth c H1 locs (kc + 1) (ks + N) (vx_MQ below (m_Qc E PR) (m_XC E PX) args s mc ms (fun q => E.1 ≤ q)) (F0 m (pc + 2) ls (.ref (m_ad E h.length) :: st.map (m_v E))) := hJ p e s m args below meth c H1 locs ls hX (m_R_push hR hlen z1 o1 hx) (by rw [z1]; omega) (fun _ => by rw [List.length_append]; simp; omega) hlo hL
  rw [ea] at hw9
  exact hw9
end
