/-! NEW ARRAYS OF REFERENCES -/
theorem m_R_app {E : mE} {h : mH} {H H1 : Heap} {x : List va_E} (hR : m_R E true h H) (hlen : h.length + x.length ≤ 1000000) (hz : H1.size = H.size + x.length) (ho : ∀ q, q < H.size → H1[q]? = H[q]?) (hx : ∀ (j : Nat) (c : va_E), x[j]? = some c → va_at E.2.2.1 m_cl (H.size + j, m_c E c) H1) : m_R E true (h ++ x) H1 := by
  have e0 : H.size = E.1 + h.length := Nat.le_antisymm (hR.2.2.1 rfl) hR.2.1
  refine ⟨fun k q hq => ?_, by rw [List.length_append]; omega, fun _ => by rw [List.length_append]; omega, fun q hq => ?_, by rw [List.length_append]; exact hlen, hR.2.2.2.2.2⟩
  · have hk : k < h.length + x.length := by
      have := (List.getElem?_eq_some_iff.mp hq).1
      simpa [m_W] using this
    simp only [m_W, List.getElem?_mapIdx] at hq
    by_cases hkl : k < h.length
    · rw [List.getElem?_append_left hkl] at hq
      have hg : (m_W E h)[k]? = some q := by simp only [m_W, List.getElem?_mapIdx]; exact hq
      have h9 := hR.1 k q hg
      exact h9.kept (ho _ h9.lt)
    · rw [List.getElem?_append_right (by omega)] at hq
      cases hc : x[k - h.length]? with
      | none => rw [hc] at hq; cases hq
      | some c =>
        rw [hc] at hq
        simp only [Option.map_some, Option.some.injEq] at hq
        subst hq
        have ea : m_ad E k = H.size + (k - h.length) := by simp [m_ad, show k < 1000000 by omega, e0]; omega
        rw [ea]
        exact hx _ _ hc
  · rw [ho q (by omega)]; exact hR.2.2.2.1 q hq
section
variable {l : Launch} {E : mE} {N : Nat} {xs : Nat → Int32} {M : mM} {d mc ms : Nat} {PR : Option Value → mH → Bool → Prop} {PX : String → mH → Prop} {kc ks : Nat} {pc t : Nat} {L : List (Option Value)} {h : mH} {st : List Value} {i : Nat}
abbrev k_ra0 (ti K : Nat) : va_E := .inl (ti, K, .inr (.inr (.inr (.inr (fun _ => none)))))
theorem m_J_anew {ti K : Nat} {C : String} {n : Int32} (hM : m_okM M = true) (hf : (m_tb M).lookup pc = some (.anewarray i, t)) (hw : m_in (.classLink M.1.cls i C) = true) (hti : m_ty[ti]? = some (.object C)) (hex : FieldType.object C ∈ ([.object "LandUses$Line", .object "LandUses$Uses", .array .long] : List FieldType)) (hn : ¬ n < 0) (hN : n.toNatClampNeg = K) (hbytes : K * 4 ≤ 536870912) (hlen : h.length < 1000000) (hc : kc + 1 ≤ mc) (hs : ks + K ≤ ms)
    (hJ : m_J l (m_EX E N xs) E M d mc ms PR PX true (kc + 1) (ks + K) (pc + 3, L, .ref h.length :: st, h ++ [k_ra0 ti K])) : m_J l (m_EX E N xs) E M d mc ms PR PX true kc ks (pc, L, .int n :: st, h) := by
  obtain ⟨n9, hd1, hn1, -, -⟩ := m_dec hM hf
  have hd : decode M.2.1 pc = .ok (.anewarray i, 3) := by rw [hd1, hn1 rfl]; rfl
  subst hN
  intro p e s m args below meth c H locs ls hX hR hz1 hz2 hlo hL
  have e0 : H.size = E.1 + h.length := Nat.le_antisymm (hR.2.2.1 rfl) hR.2.1
  have hover : va_AO C s := hX.2.2.2.2.2.2.2.2.2.2.1.2.2.2.1 _ hex
  refine W.anew hX.1 hX.2.1 hX.2.2.2.2.1 (hX.2.2.2.2.2.1 _ (m_in_mem hw)) (va_AO.use hover) rfl hd rfl hn hbytes hc hs fun cA kA comp f1 f2 f3 f4 => ?_
  generalize hH1 : H.push ({ cls := cA, slots := Array.replicate n.toNatClampNeg .null, vm := .none } : Cell) = H1
  have z1 : H1.size = H.size + 1 := by rw [← hH1, Array.size_push]
  have e1 : H1[H.size]? = some (arrV cA n.toNatClampNeg (fun _ => .null)) := by rw [← hH1, Array.getElem?_push_size, ← arrV_new]
  have o1 : ∀ q : Nat, q < H.size → H1[q]? = H[q]? := fun q hq => by rw [← hH1, Array.getElem?_push, if_neg (Nat.ne_of_lt hq)]
  have ea : m_ad E h.length = H.size := by simp [m_ad, hlen, e0]
  have hRA : va_RA s (E.2.2.2.1 ti) (.object C) := (hX.2.2.2.2.2.2.1.2 ti _ (m_tys_get E hti)).2
  obtain ⟨kA9, comp9, g1, g2, g3, g4⟩ := hRA
  have hcA : E.2.2.2.1 ti = cA := Option.some.inj (g4.symm.trans f1)
  have hx : va_at E.2.2.1 m_cl (H.size, m_c E (k_ra0 ti n.toNatClampNeg)) H1 := by
    show H1[H.size]? = some (vp_cell _ _)
    rw [hcA, vp_cell_q]
    exact e1
  have hz9 : s.heap.size + kc ≤ E.1 + h.length := hz2 rfl
  have hw9 : W p l e (m_rm d mc ms) s m args below meth c H1 locs (kc + 1) (ks + n.toNatClampNeg) (vx_MQ below (m_Qc E PR) (m_XC E PX) args s mc ms (fun q => E.1 ≤ q)) (F0 m (pc + 3) ls (.ref (m_ad E h.length) :: st.map (m_v E))) := hJ p e s m args below meth c H1 locs ls hX (m_R_push hR hlen z1 o1 hx) (by rw [z1]; omega) (fun _ => by rw [List.length_append]; simp; omega) hlo hL
  rw [ea] at hw9
  exact hw9
/-- six rows of longs -/
theorem m_J_mna {K1 K2 : Nat} {n k : Int32} (hM : m_okM M = true) (hf : (m_tb M).lookup pc = some (.multianewarray i 2, t)) (hw : m_in (.classLink M.1.cls i ("[" ++ (FieldType.array .long).toString)) = true) (hwa : m_in (.arrayClass .long) = true) (hn : ¬ n < 0) (hk : ¬ k < 0) (hN : n.toNatClampNeg = K1) (hK : k.toNatClampNeg = K2) (hb1 : K1 * 4 ≤ 536870912) (hb2 : K2 * 8 ≤ 536870912) (hlen : h.length + (K1 + 1) ≤ 1000000) (hc : kc + (1 + K1) ≤ mc) (hs : ks + (K1 + K1 * K2) ≤ ms)
    (hJ : m_J l (m_EX E N xs) E M d mc ms PR PX true (kc + 1 + K1) (ks + K1 + K1 * K2) (pc + 4, L, .ref h.length :: st, h ++ (.inl (6, K1, .inr (.inr (.inr (.inr (fun j => if j < K1 then some (h.length + 1 + j) else none))))) :: List.replicate K1 (.inl (1, K2, .inr (.inl (fun _ => 0))))))) : m_J l (m_EX E N xs) E M d mc ms PR PX true kc ks (pc, L, .int k :: .int n :: st, h) := by
  obtain ⟨n9, hd1, hn1, -, -⟩ := m_dec hM hf
  have hd : decode M.2.1 pc = .ok (.multianewarray i 2, 4) := by rw [hd1, hn1 rfl]; rfl
  subst hN
  subst hK
  intro p e s m args below meth c H locs ls hX hR hz1 hz2 hlo hL
  have e0 : H.size = E.1 + h.length := Nat.le_antisymm (hR.2.2.1 rfl) hR.2.1
  have hover : va_AOA .long s := hX.2.2.2.2.2.2.2.2.2.2.1.2.2.2.1 _ (by simp)
  intro T hT Xs
  obtain ⟨vm₁, cA, comp, -, fA, fC, hO, -, X', step⟩ := Xs.multianewarray2F hX.1 hX.2.2.2.2.1 (hX.2.2.2.2.2.1 _ (m_in_mem hw)) (va_AOA.use hover) (hX.2.2.2.2.2.1 _ (m_in_mem hwa)) (g := F0 m pc ls (.int k :: .int n :: st.map (m_v E))) rfl (by rw [hX.2.1]; exact hd) rfl hn hk hb1 hb2 (by omega) rfl rfl hc hs
  have hA6 : E.2.2.2.1 6 = cA := Option.some.inj (((hX.2.2.2.2.2.2.1.2 6 _ (m_tys_get E rfl)).2).symm.trans fA)
  have hA1 : E.2.2.2.1 1 = comp := Option.some.inj (((hX.2.2.2.2.2.2.1.2 1 _ (m_tys_get E rfl)).2).symm.trans fC)
  generalize hF : Jvm.Free.Multi.fill (T.setVm vm₁) cA comp n.toNatClampNeg k.toNatClampNeg (defaultValue .long) n.toNatClampNeg = F at X' step
  have hTh : (T.setVm vm₁).heap = H := hT
  obtain ⟨f1, f2, -, -⟩ := Jvm.Free.Multi.fill_facts (T.setVm vm₁) cA comp n.toNatClampNeg k.toNatClampNeg (defaultValue .long) n.toNatClampNeg
  rw [hF, hTh] at f1 f2
  have hold : ∀ x : Nat, x < H.size → F.heap[x]? = H[x]? := fun x hx => by
    have := Jvm.Free.Multi.fill_old (T.setVm vm₁) cA comp n.toNatClampNeg k.toNatClampNeg (defaultValue .long) (a := x) (by rw [hTh]; exact hx) n.toNatClampNeg
    rw [hF, hTh] at this
    exact this
  have hrow : ∀ j : Nat, j < n.toNatClampNeg → F.heap[H.size + 1 + j]? = some (vp_cell comp (k.toNatClampNeg, .inr (.inl (fun _ => 0)))) := fun j hj => by
    have := Jvm.Free.Multi.fill_inner (T.setVm vm₁) cA comp n.toNatClampNeg k.toNatClampNeg (defaultValue .long) n.toNatClampNeg j hj
    rw [hF, hTh] at this
    rw [this]
    refine congrArg some ?_
    show ({ cls := comp, slots := Array.replicate k.toNatClampNeg (defaultValue .long), vm := .none } : Cell) = _
    rw [arrV_new]
    rfl
  have hout : Jvm.Free.Multi.outerC cA n.toNatClampNeg H.size n.toNatClampNeg = vp_cell cA (n.toNatClampNeg, .inr (.inr (.inr (.inr (fun i => if i < n.toNatClampNeg then some (H.size + 1 + i) else none))))) := by
    rw [vp_cell_q]
    exact vr_outer cA n.toNatClampNeg H.size n.toNatClampNeg
  rw [hout] at f2
  have ea : m_ad E h.length = H.size := by simp [m_ad, show h.length < 1000000 by omega, e0]
  have hz9 : s.heap.size + kc ≤ E.1 + h.length := hz2 rfl
  have hR1 : m_R E true (h ++ (.inl (6, n.toNatClampNeg, .inr (.inr (.inr (.inr (fun j => if j < n.toNatClampNeg then some (h.length + 1 + j) else none))))) :: List.replicate n.toNatClampNeg (.inl (1, k.toNatClampNeg, .inr (.inl (fun _ => 0)))))) F.heap := by
    refine m_R_app hR (by simp; omega) (by rw [f1]; simp; omega) hold (fun j c hj => ?_)
    cases j with
    | zero =>
      simp only [List.getElem?_cons_zero, Option.some.injEq] at hj
      subst hj
      show F.heap[H.size + 0]? = some (vp_cell _ _)
      rw [Nat.add_zero, hA6, f2]
      refine congrArg some (congrArg (vp_cell cA) ?_)
      refine congrArg (fun g => (n.toNatClampNeg, Sum.inr (Sum.inr (Sum.inr (Sum.inr g))))) (funext fun j => ?_)
      by_cases hj : j < n.toNatClampNeg
      · simp only [hj, if_true, Option.map_some]
        rw [m_ad, if_pos (by omega)]
        congr 1
        omega
      · simp [hj]
    | succ j =>
      rw [List.getElem?_cons_succ, List.getElem?_replicate] at hj
      split at hj
      · rename_i hj2
        simp only [Option.some.injEq] at hj
        subst hj
        show F.heap[H.size + (j + 1)]? = some (vp_cell _ _)
        rw [hA1, show H.size + (j + 1) = H.size + 1 + j by omega]
        exact hrow j hj2
      · cases hj
  have hw9 := hJ p e s m args below meth c F.heap locs ls hX hR1 (by rw [f1]; omega) (fun _ => by rw [List.length_append]; simp; omega) hlo hL F rfl
  obtain ⟨t9, a1, b1⟩ := hw9 X'
  refine ⟨t9, step t9 ?_, b1⟩
  have e : T.heap.size = H.size := by rw [hT]
  rw [e, ← ea]
  exact a1
end
