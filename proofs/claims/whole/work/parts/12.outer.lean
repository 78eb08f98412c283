/-! WHAT LIES OUTSIDE: the script, the constants of text, statics; throws and catches -/
def m_strs : List (String × Nat × String) := [("LandUses", 255, "no such square"), ("LandUses", 99, "no such use"), ("LandUses", 117, "no such soil"), ("LandUses$Reader", 51, "law"), ("LandUses$Reader", 121, "wild"), ("LandUses$Reader", 123, "homes"), ("LandUses$Reader", 125, "works"), ("LandUses$Reader", 127, "farms"), ("LandUses$Reader", 129, "woods"), ("LandUses$Reader", 102, "apart"), ("LandUses$Reader", 104, "least"), ("LandUses$Reader", 106, "most"), ("LandUses$Reader", 108, "joined"), ("LandUses$Reader", 60, "grow"), ("LandUses$Reader", 110, "to"), ("LandUses$Reader", 119, "when"), ("LandUses$Reader", 86, "near"), ("LandUses$Reader", 77, "minus"), ("LandUses$Reader", 97, "on"), ("LandUses", 141, "the text is wrong"), ("LandUses", 253, "no such line"), ("LandUses", 163, "not 0 to 20 years"), ("LandUses", 182, "there is no best"), ("LandUses", 198, "the line is no law"), ("LandUses", 216, "no such thing to look at"), ("LandUses", 250, "no such plan"), ("LandUsesModel", 191, "law"), ("LandUsesModel", 152, "wild"), ("LandUsesModel", 154, "homes"), ("LandUsesModel", 156, "works"), ("LandUsesModel", 158, "farms"), ("LandUsesModel", 160, "woods"), ("LandUsesModel", 177, "joined"), ("LandUsesModel", 179, "apart"), ("LandUsesModel", 181, "least"), ("LandUsesModel", 182, "most"), ("LandUsesModel", 196, "grow"), ("LandUsesModel", 184, "to"), ("LandUsesModel", 189, "when"), ("LandUsesModel", 170, "near"), ("LandUsesModel", 165, "minus"), ("LandUsesModel", 175, "on")]
/-- a text's letters -/
def m_tx (i : Nat) : List Nat := ((m_strs.getD i ("", 0, "")).2.2.toList).map Char.toNat
def m_exc : List String := ["java/lang/IndexOutOfBoundsException", "java/lang/IllegalArgumentException", "java/util/NoSuchElementException"]
def m_EX (E : mE) (N : Nat) (xs : Nat → Int32) (U : State) : Prop :=
  (∀ i q, m_strs[i]? = some q → vk_R q.1 q.2.1 q.2.2 (E.2.1 (1000001 + i)) U) ∧
  vx_Zq Bundle.tN "UNASSIGNED_STACK" Bundle.steD (fun q => E.1 ≤ q) U E.2.2.2.2 ∧ vx_Zq Bundle.tN "SUPPRESSED_SENTINEL" Bundle.listD (fun q => E.1 ≤ q) U E.2.2.2.2 ∧
  (∀ ty ∈ ([.object "LandUses$Line", .object "LandUses$Uses", .array .long] : List FieldType), (Cond.arrayOver ty).before #[] U = true) ∧
  (∀ a ∈ m_exc, ∀ b ∈ m_exc, a ≠ b → va_Nc a b U) ∧
  va_X (E.2.1 1000000) N xs U E.2.2.2.2 ∧ E.2.1 1000000 < E.1 ∧
  (∀ i, i < 42 → va_O "java/lang/String" (E.2.1 (1000001 + i)) (fun q => E.1 ≤ q) U E.2.2.2.2 ∧ va_OF "java/lang/String" "coder" "B" (.int 0) (E.2.1 (1000001 + i)) (fun q => E.1 ≤ q) U E.2.2.2.2 ∧ va_OF "java/lang/String" "value" "[B" (.ref (E.2.1 (2000001 + i))) (E.2.1 (1000001 + i)) (fun q => E.1 ≤ q) U E.2.2.2.2 ∧ va_T .byte (E.2.1 (2000001 + i)) (m_tx i).length (fun j => .int (nI ((m_tx i).getD j 0))) (fun q => E.1 ≤ q) U E.2.2.2.2) ∧
  va_Z "java/lang/String" "COMPACT_STRINGS" "Z" (.int 1) (fun q => E.1 ≤ q) U E.2.2.2.2 ∧
  (va_Z "jdk/internal/util/Preconditions" "SIOOBE_FORMATTER" "Ljava/util/function/BiFunction;" .null (fun q => E.1 ≤ q) U E.2.2.2.2 ∨ va_Z "jdk/internal/util/Preconditions" "SIOOBE_FORMATTER" "Ljava/util/function/BiFunction;" (.ref (E.2.1 3000000)) (fun q => E.1 ≤ q) U E.2.2.2.2)
theorem m_EX_warm (E : mE) (N : Nat) (xs : Nat → Int32) : ∀ s U : State, s.WarmedH U.vm → m_EX E N xs s → m_EX E N xs U := by
  intro s U hW h
  obtain ⟨h1, h2, h3, h4, h5, h6, h7, h8, h9, h10⟩ := h
  refine ⟨fun i q hq => (h1 i q hq).warm hW, h2.moved hW.alike, h3.moved hW.alike, fun ty hty => ?_, fun a ha b hb hn => (h5 a ha b hb hn).moved hW.alike, h6.moved hW.alike, h7, fun i hi => ?_, h9.moved hW.alike, h10.imp (fun h => h.moved hW.alike) (fun h => h.moved hW.alike)⟩
  · have h0 := h4 ty hty
    rcases List.mem_cons.mp hty with rfl | hty
    · exact va_AO.moved hW.alike h0
    · rcases List.mem_cons.mp hty with rfl | hty
      · exact va_AO.moved hW.alike h0
      · rcases List.mem_cons.mp hty with rfl | hty
        · exact arrayOver_alikeB hW.alike h0
        · cases hty
  · obtain ⟨a1, a2, a3, a4⟩ := h8 i hi
    exact ⟨a1.moved hW.alike, a2.moved hW.alike, a3.moved hW.alike, a4.moved hW.alike⟩
section
variable {l : Launch} {E : mE} {N : Nat} {xs : Nat → Int32} {M : mM} {d mc ms : Nat} {PR : Option Value → mH → Bool → Prop} {PX : String → mH → Prop} {tg : Bool} {kc ks : Nat} {pc t : Nat} {L : List (Option Value)} {h : mH} {rest : List Value}
set_option maxHeartbeats 1000000 in
theorem m_J_throw {ik is ic si t0 t1 t2 t3 t4 : Nat} {nm text : String} (hl : l.stackTraces = false) (hM : m_okM M = true) (hh : M.2.2.2.2.1 = []) (f0 : (m_tb M).lookup pc = some (.new ik, t0)) (f3 : (m_tb M).lookup (pc + 3) = some (.dup, t1)) (f4 : (m_tb M).lookup (pc + 4) = some (.ldc is, t2)) (f6 : (m_tb M).lookup (pc + 6) = some (.invokespecial ic, t3)) (f9 : (m_tb M).lookup (pc + 9) = some (.athrow, t4))
    (hs9 : m_strs[si]? = some (M.1.cls, is, text)) (hw : m_tw M.1.cls ik ic nm = true) (hrs : (rest.map fun v => v.category).sum ≤ 40) (hc : kc + 1 ≤ mc) (hs : ks + 6 ≤ ms) (hp : PX nm h) : m_J l (m_EX E N xs) E M d mc ms PR PX tg kc ks (pc, L, rest, h) := by
  have hd : ∀ {pc : Nat} {i : Instr} {t : Nat}, (m_tb M).lookup pc = some (i, t) → m_sw i = false → decode M.2.1 pc = .ok (i, m_len i) := by
    intro pc i t hf hsw
    obtain ⟨n, hd1, hn1, -, -⟩ := m_dec hM hf
    rw [hd1, hn1 hsw]
  simp only [m_tw, Bool.and_eq_true] at hw
  obtain ⟨⟨⟨⟨⟨w1, w2⟩, w3⟩, w4⟩, w5⟩, w6⟩ := hw
  intro p e s m args below meth c H locs ls hX hR hz1 hz2 hlo hL
  obtain ⟨x1, x2, x3, x4, x5, x6, x7, x8, x9, x10, x11, x12, x13⟩ := hX
  have hkeep : ∀ a : Nat, a < E.2.2.2.2.size → ¬ E.1 ≤ a → s.heap[a]? = E.2.2.2.2[a]? := fun a _ hn => x13 a (by omega)
  have hS : va_S (fun q => E.1 ≤ q) s.heap H locs := ⟨hz1, fun q h1 h2 => by rw [hR.2.2.2.1 q (by omega), x13 q (by omega)], hlo⟩
  refine vx_throwS (names := ["java/lang/RuntimeException", "java/lang/Exception"]) (text := text) x1 x2 hl x5 w4 (by decide +kernel) (x6 _ (m_in_mem w1)) (x6 _ (m_in_mem w2)) (x11.1 si _ hs9) (fun w hw => x6 _ (m_in_mem ?_)) (fun w hw => ?_) (x11.2.1.kept hkeep) (x11.2.2.1.kept hkeep) hS (hL.1.trans x4.symm) (hd f0 rfl) (hd f3 rfl) (hd f4 rfl) (hd f6 rfl) (hd f9 rfl) (fun x hx => ?_) (by simp [m_rm]; omega) ?_ hc hs x8 (fun t ht hz ho => ⟨⟨h, hp, ?_⟩, Nat.le_trans hz1 hz⟩) hlo hc hs
  · have := List.all_eq_true.mp w3 w hw
    simp only [Bool.and_eq_true] at this
    exact this.1
  · rcases List.mem_cons.mp hw with rfl | hw
    · exact w5
    · rcases List.mem_cons.mp hw with rfl | hw
      · exact w6
      · have := List.all_eq_true.mp w3 w hw
        simp only [Bool.and_eq_true] at this
        exact this.2
  · rw [x10, hh] at hx; cases hx
  · have e0 : (rest.map (m_v E)).map (fun v => v.category) = rest.map (fun v => v.category) := by rw [List.map_map]; exact List.map_congr_left (fun v _ => m_cat E v)
    show ((rest.map (m_v E)).map fun v => v.category).sum + _ ≤ _
    rw [e0]; simp [m_rm]; omega
  · have e9 : m_R E false h H := ⟨hR.1, hR.2.1, (fun h => by cases h), hR.2.2.2.1, hR.2.2.2.2⟩
    refine ⟨fun k q hq => ?_, Nat.le_trans hR.2.1 hz, (fun h => by cases h), fun q hq => ?_, hR.2.2.2.2⟩
    · have h9 := hR.1 k q hq
      exact h9.kept (ho _ h9.lt)
    · rw [ho q (by have := hR.2.1; omega)]; exact hR.2.2.2.1 q hq
set_option maxHeartbeats 1000000 in
/-- a handler: store, a number, return -/
theorem m_JX_catch {EX : State → Prop} {nm cn : String} {pre suf : List (Nat × Nat × Nat × Nat)} {sp ep hp ct k t1 t2 t3 pv : Nat} {v : Int32} {n : Int} (hM : m_okM M = true) (hE : ∀ U, EX U → m_EX E N xs U) (hh : M.2.2.2.2.1 = pre ++ (sp, ep, hp, ct) :: suf) (hcov : Nat.ble sp pc && Nat.blt pc ep = true) (hnm : nm ∈ m_exc) (hct : ct ≠ 0)
    (hpre : ∀ q ∈ pre, q.2.2.2 ≠ 0 ∧ ∃ x ∈ m_exc, x ≠ nm ∧ m_in (.classLink M.1.cls q.2.2.2 x) = true) (hlk : m_in (.classLink M.1.cls ct cn) = true) (hcast : m_in (.castable nm cn) = true)
    (f0 : (m_tb M).lookup hp = some (.astore k, t1)) (f1 : (m_tb M).lookup (hp + 2) = some (.iconst n, t2)) (f2 : (m_tb M).lookup (hp + 3) = some (.ireturn, t3)) (hk : k < M.2.2.1) (hv : Int32.ofInt n = v) (hr : M.2.2.2.1 = some .int) (hc : kc ≤ mc) (hs : ks ≤ ms) (hpr : PR (some (.int v)) h false) : m_JX l EX E M d mc ms PR PX kc ks nm pc L h := by
  have hd : ∀ {pc : Nat} {i : Instr} {t : Nat}, (m_tb M).lookup pc = some (i, t) → m_sw i = false → decode M.2.1 pc = .ok (i, m_len i) := by
    intro pc i t hf hsw
    obtain ⟨n, hd1, hn1, -, -⟩ := m_dec hM hf
    rw [hd1, hn1 hsw]
  intro p e s m args below meth c H locs ls q ce rest hX hR hz1 hlo hL hq hcv hcl
  obtain ⟨x1, x2, x3, x4, x5, x6, x7, x8, x9, x10, x11, x12, x13⟩ := hX
  have hx11 := hE s x11
  simp only [Bool.and_eq_true] at hcov
  refine vx_catch (own := M.1.cls) (name := cn) (E := nm) (ce := ce) x5 (tableOf pre) { startPc := sp, endPc := ep, handlerPc := hp, catchType := ct } (tableOf suf) (by rw [x10, hh]; simp [tableOf]) (fun z hz => ?_) ?_ hct (x6 _ (m_in_mem hlk)) (x6 _ (m_in_mem hcast)) hq hcv hcl ?_
  · simp only [tableOf, List.mem_map] at hz
    obtain ⟨w, hw, rfl⟩ := hz
    obtain ⟨a1, x, hx, hxn, hxl⟩ := hpre w hw
    exact Or.inr ⟨a1, x, x6 _ (m_in_mem hxl), hx11.2.2.2.2.1 nm hnm x hx (Ne.symm hxn)⟩
  · simp only [covers, Bool.and_eq_true, decide_eq_true_eq]
    refine ⟨?_, ?_⟩
    · simpa using hcov.1
    · simpa [Nat.blt_eq] using hcov.2
  · refine lv_astore x1 x2 (hd f0 rfl) (m_al_has hL) hk rfl (fun ls2 h2 => ?_)
    refine lv_iconst x1 x2 (hd f1 rfl) hv ?_
    refine W.widen (k := mc) (n := ms) hc hs (vx_ret ?_)
    exact W.zret x1 x2 (x3.trans hr) rfl (fun t ht _ => ⟨⟨some (.int v), h, false, rfl, hpr, by rw [ht]; exact hR⟩, by rw [ht]; exact hz1⟩) hlo (hd f2 rfl) x8
/-- the heap below the base is as at the start -/
theorem m_keep {p : Program} {s : State} {m : MethodId} {args : Array Value} {meth : Method} {c : Code} {EX : State → Prop} (hX : m_X EX E M p s m args meth c) : ∀ a : Nat, a < E.2.2.2.2.size → ¬ E.1 ≤ a → s.heap[a]? = E.2.2.2.2[a]? := fun a _ hn => hX.2.2.2.2.2.2.2.2.2.2.2.2 a (by omega)
theorem m_S {p : Program} {s : State} {m : MethodId} {args : Array Value} {meth : Method} {c : Code} {EX : State → Prop} {H : Heap} {locs : List Loc} (hX : m_X EX E M p s m args meth c) (hR : m_R E tg h H) (hz1 : s.heap.size ≤ H.size) (hlo : ∀ q ∈ locs, E.1 ≤ q.base) : va_S (fun q => E.1 ≤ q) s.heap H locs :=
  ⟨hz1, fun q _ h2 => by rw [hR.2.2.2.1 q (by omega), hX.2.2.2.2.2.2.2.2.2.2.2.2 q (by omega)], hlo⟩
theorem m_dec1 (hM : m_okM M = true) {pc : Nat} {i : Instr} {t : Nat} (hf : (m_tb M).lookup pc = some (i, t)) (hsw : m_sw i = false) : decode M.2.1 pc = .ok (i, m_len i) := by
  obtain ⟨n, hd1, hn1, -, -⟩ := m_dec hM hf
  rw [hd1, hn1 hsw]
theorem m_va_O_kept {o : String} {t : Nat} {A : Nat → Prop} {U : State} {H H1 : Heap} (h : va_O o t A U H) (hq : ∀ a : Nat, a < H.size → ¬ A a → H1[a]? = H[a]?) : va_O o t A U H1 := by
  obtain ⟨cell, h1, h2⟩ := h
  exact ⟨cell, (hq t (Array.getElem?_eq_some_iff.mp h1).1 h2.2.2).trans h1, h2⟩
theorem m_va_T_kept {ty : FieldType} {t N : Nat} {f : Nat → Value} {A : Nat → Prop} {U : State} {H H1 : Heap} (h : va_T ty t N f A U H) (hq : ∀ a : Nat, a < H.size → ¬ A a → H1[a]? = H[a]?) : va_T ty t N f A U H1 := by
  obtain ⟨cell, h1, h2⟩ := h
  exact ⟨cell, (hq t (Array.getElem?_eq_some_iff.mp h1).1 h2.2.2.2.2.2).trans h1, h2⟩
theorem m_va_Z_kept {C n d : String} {v : Value} {A : Nat → Prop} {U : State} {H H1 : Heap} (h : va_Z C n d v A U H) (hq : ∀ a : Nat, a < H.size → ¬ A a → H1[a]? = H[a]?) : va_Z C n d v A U H1 := by
  obtain ⟨cf, kf, fi, f, a, cell, h1, h2, h3, h4, h5, h6, h7, h8⟩ := h
  exact ⟨cf, kf, fi, f, a, cell, h1, h2, h3, h4, (hq a (Array.getElem?_eq_some_iff.mp h5).1 h8).trans h5, h6, h7, h8⟩
theorem m_J_ldcS {is si : Nat} {text : String} (hM : m_okM M = true) (hf : (m_tb M).lookup pc = some (.ldc is, t)) (hs9 : m_strs[si]? = some (M.1.cls, is, text)) (hJ : m_J l (m_EX E N xs) E M d mc ms PR PX tg kc ks (pc + 2, L, .ref (1000001 + si) :: rest, h)) : m_J l (m_EX E N xs) E M d mc ms PR PX tg kc ks (pc, L, rest, h) := by
  intro p e s m args below meth c H locs ls hX hR hz1 hz2 hlo hL T hT X
  have hw : W p l e (m_rm d mc ms) s m args below meth c H locs kc ks (vx_MQ below (m_Qc E PR) (m_XC E PX) args s mc ms (fun q => E.1 ≤ q)) (F0 m (pc + 2) ls (.ref (E.2.1 (1000001 + si)) :: rest.map (m_v E))) := by
    have h0 := hJ p e s m args below meth c H locs ls hX hR hz1 hz2 hlo hL
    have ea : m_ad E (1000001 + si) = E.2.1 (1000001 + si) := by unfold m_ad; rw [if_neg (by omega)]
    have h1 : W p l e (m_rm d mc ms) s m args below meth c H locs kc ks (vx_MQ below (m_Qc E PR) (m_XC E PX) args s mc ms (fun q => E.1 ≤ q)) (F0 m (pc + 2) ls (.ref (m_ad E (1000001 + si)) :: rest.map (m_v E))) := h0
    rwa [ea] at h1
  obtain ⟨t2, a1, b1⟩ := hw T hT X
  have hZ := hX.2.2.2.2.2.2.2.2.2.2.1.1 si _ hs9
  exact ⟨t2, X.ldcString hX.1 hX.2.2.2.2.1 (text := text) (a := E.2.1 (1000001 + si)) hZ.1 hZ.2 (g := F0 m pc ls (rest.map (m_v E))) rfl (by rw [hX.2.1]; exact m_dec1 hM hf rfl) t2 a1, b1⟩
theorem m_ext {k : Nat} (hk : 1000000 ≤ k) : m_ad E k = E.2.1 k := by unfold m_ad; rw [if_neg (by omega)]
/-- a text's own fields -/
theorem m_J_sval {i si : Nat} (hM : m_okM M = true) (hf : (m_tb M).lookup pc = some (.getfield i, t)) (hw : m_in (.fieldLink M.1.cls i "java/lang/String" "value" "[B") = true) (hi : si < 42) (hJ : m_J l (m_EX E N xs) E M d mc ms PR PX tg kc ks (pc + 3, L, .ref (2000001 + si) :: rest, h)) : m_J l (m_EX E N xs) E M d mc ms PR PX tg kc ks (pc, L, .ref (1000001 + si) :: rest, h) := by
  intro p e s m args below meth c H locs ls hX hR hz1 hz2 hlo hL
  have h0 : W p l e (m_rm d mc ms) s m args below meth c H locs kc ks (vx_MQ below (m_Qc E PR) (m_XC E PX) args s mc ms (fun q => E.1 ≤ q)) (F0 m (pc + 3) ls (.ref (m_ad E (2000001 + si)) :: rest.map (m_v E))) := hJ p e s m args below meth c H locs ls hX hR hz1 hz2 hlo hL
  rw [m_ext (by omega)] at h0
  show W p l e (m_rm d mc ms) s m args below meth c H locs kc ks _ (F0 m pc ls (.ref (m_ad E (1000001 + si)) :: rest.map (m_v E)))
  rw [m_ext (by omega)]
  exact vk_getf hX.1 hX.2.1 (((hX.2.2.2.2.2.2.2.2.2.2.1.2.2.2.2.2.2.2.1 si hi).2.2.1).kept (m_keep hX)) (m_S hX hR hz1 hlo) hX.2.2.2.2.1 (hX.2.2.2.2.2.1 _ (m_in_mem hw)) (fun _ h9 => h9) (m_dec1 hM hf rfl) h0
theorem m_J_scod {i si : Nat} (hM : m_okM M = true) (hf : (m_tb M).lookup pc = some (.getfield i, t)) (hw : m_in (.fieldLink M.1.cls i "java/lang/String" "coder" "B") = true) (hi : si < 42) (hJ : m_J l (m_EX E N xs) E M d mc ms PR PX tg kc ks (pc + 3, L, .int 0 :: rest, h)) : m_J l (m_EX E N xs) E M d mc ms PR PX tg kc ks (pc, L, .ref (1000001 + si) :: rest, h) := by
  intro p e s m args below meth c H locs ls hX hR hz1 hz2 hlo hL
  have h0 : W p l e (m_rm d mc ms) s m args below meth c H locs kc ks (vx_MQ below (m_Qc E PR) (m_XC E PX) args s mc ms (fun q => E.1 ≤ q)) (F0 m (pc + 3) ls (.int 0 :: rest.map (m_v E))) := hJ p e s m args below meth c H locs ls hX hR hz1 hz2 hlo hL
  show W p l e (m_rm d mc ms) s m args below meth c H locs kc ks _ (F0 m pc ls (.ref (m_ad E (1000001 + si)) :: rest.map (m_v E)))
  rw [m_ext (by omega)]
  exact vk_getf hX.1 hX.2.1 (((hX.2.2.2.2.2.2.2.2.2.2.1.2.2.2.2.2.2.2.1 si hi).2.1).kept (m_keep hX)) (m_S hX hR hz1 hlo) hX.2.2.2.2.1 (hX.2.2.2.2.2.1 _ (m_in_mem hw)) (fun _ h9 => h9) (m_dec1 hM hf rfl) h0
theorem m_J_slen {si : Nat} (hM : m_okM M = true) (hf : (m_tb M).lookup pc = some (.arraylength, t)) (hi : si < 42) (hJ : m_J l (m_EX E N xs) E M d mc ms PR PX tg kc ks (pc + 1, L, .int (nI (m_tx si).length) :: rest, h)) : m_J l (m_EX E N xs) E M d mc ms PR PX tg kc ks (pc, L, .ref (2000001 + si) :: rest, h) := by
  intro p e s m args below meth c H locs ls hX hR hz1 hz2 hlo hL
  have h0 : W p l e (m_rm d mc ms) s m args below meth c H locs kc ks (vx_MQ below (m_Qc E PR) (m_XC E PX) args s mc ms (fun q => E.1 ≤ q)) (F0 m (pc + 1) ls (.int (nI (m_tx si).length) :: rest.map (m_v E))) := hJ p e s m args below meth c H locs ls hX hR hz1 hz2 hlo hL
  show W p l e (m_rm d mc ms) s m args below meth c H locs kc ks _ (F0 m pc ls (.ref (m_ad E (2000001 + si)) :: rest.map (m_v E)))
  rw [m_ext (by omega)]
  exact va_tlen hX.1 hX.2.1 (m_va_T_kept (hX.2.2.2.2.2.2.2.2.2.2.1.2.2.2.2.2.2.2.1 si hi).2.2.2 (m_keep hX)) (m_S hX hR hz1 hlo) rfl (m_dec1 hM hf rfl) h0
theorem m_J_sbyt {si k : Nat} (hM : m_okM M = true) (hf : (m_tb M).lookup pc = some (.baload, t)) (hi : si < 42) (hk : k < (m_tx si).length) (hk2 : k < 2 ^ 31) (hJ : m_J l (m_EX E N xs) E M d mc ms PR PX tg kc ks (pc + 1, L, .int (nI ((m_tx si).getD k 0)) :: rest, h)) : m_J l (m_EX E N xs) E M d mc ms PR PX tg kc ks (pc, L, .int (nI k) :: .ref (2000001 + si) :: rest, h) := by
  intro p e s m args below meth c H locs ls hX hR hz1 hz2 hlo hL
  have h0 : W p l e (m_rm d mc ms) s m args below meth c H locs kc ks (vx_MQ below (m_Qc E PR) (m_XC E PX) args s mc ms (fun q => E.1 ≤ q)) (F0 m (pc + 1) ls (.int (nI ((m_tx si).getD k 0)) :: rest.map (m_v E))) := hJ p e s m args below meth c H locs ls hX hR hz1 hz2 hlo hL
  show W p l e (m_rm d mc ms) s m args below meth c H locs kc ks _ (F0 m pc ls (.int (nI k) :: .ref (m_ad E (2000001 + si)) :: rest.map (m_v E)))
  rw [m_ext (by omega)]
  exact va_tb hX.1 hX.2.1 (m_va_T_kept (hX.2.2.2.2.2.2.2.2.2.2.1.2.2.2.2.2.2.2.1 si hi).2.2.2 (m_keep hX)) (m_S hX hR hz1 hlo) (fun hq => hq.elim (nI_pos hk2) (fun hq => by rw [nI_clamp hk2] at hq; omega)) (by rw [nI_clamp hk2]) (m_dec1 hM hf rfl) h0
theorem m_J_gcomp {i : Nat} (hM : m_okM M = true) (hf : (m_tb M).lookup pc = some (.getstatic i, t)) (hw : m_in (.fieldLink M.1.cls i "java/lang/String" "COMPACT_STRINGS" "Z") = true) (hJ : m_J l (m_EX E N xs) E M d mc ms PR PX tg kc ks (pc + 3, L, .int 1 :: rest, h)) : m_J l (m_EX E N xs) E M d mc ms PR PX tg kc ks (pc, L, rest, h) := by
  intro p e s m args below meth c H locs ls hX hR hz1 hz2 hlo hL
  have h0 : W p l e (m_rm d mc ms) s m args below meth c H locs kc ks (vx_MQ below (m_Qc E PR) (m_XC E PX) args s mc ms (fun q => E.1 ≤ q)) (F0 m (pc + 3) ls (.int 1 :: rest.map (m_v E))) := hJ p e s m args below meth c H locs ls hX hR hz1 hz2 hlo hL
  exact va_gets hX.1 hX.2.1 (m_va_Z_kept hX.2.2.2.2.2.2.2.2.2.2.1.2.2.2.2.2.2.2.2.1 (m_keep hX)) (m_S hX hR hz1 hlo) hX.2.2.2.2.1 (hX.2.2.2.2.2.1 _ (m_in_mem hw)) (fun _ h9 => h9) (m_dec1 hM hf rfl) h0
theorem m_J_gform {i : Nat} (hM : m_okM M = true) (hf : (m_tb M).lookup pc = some (.getstatic i, t)) (hw : m_in (.fieldLink M.1.cls i "jdk/internal/util/Preconditions" "SIOOBE_FORMATTER" "Ljava/util/function/BiFunction;") = true) (hJ : ∀ v, v = .null ∨ v = .ref 3000000 → m_J l (m_EX E N xs) E M d mc ms PR PX tg kc ks (pc + 3, L, v :: rest, h)) : m_J l (m_EX E N xs) E M d mc ms PR PX tg kc ks (pc, L, rest, h) := by
  intro p e s m args below meth c H locs ls hX hR hz1 hz2 hlo hL
  rcases hX.2.2.2.2.2.2.2.2.2.2.1.2.2.2.2.2.2.2.2.2 with hz | hz
  · have h0 : W p l e (m_rm d mc ms) s m args below meth c H locs kc ks (vx_MQ below (m_Qc E PR) (m_XC E PX) args s mc ms (fun q => E.1 ≤ q)) (F0 m (pc + 3) ls (.null :: rest.map (m_v E))) := hJ .null (Or.inl rfl) p e s m args below meth c H locs ls hX hR hz1 hz2 hlo hL
    exact va_gets hX.1 hX.2.1 (m_va_Z_kept hz (m_keep hX)) (m_S hX hR hz1 hlo) hX.2.2.2.2.1 (hX.2.2.2.2.2.1 _ (m_in_mem hw)) (fun _ h9 => h9) (m_dec1 hM hf rfl) h0
  · have h0 : W p l e (m_rm d mc ms) s m args below meth c H locs kc ks (vx_MQ below (m_Qc E PR) (m_XC E PX) args s mc ms (fun q => E.1 ≤ q)) (F0 m (pc + 3) ls (.ref (m_ad E 3000000) :: rest.map (m_v E))) := hJ (.ref 3000000) (Or.inr rfl) p e s m args below meth c H locs ls hX hR hz1 hz2 hlo hL
    rw [m_ext (by omega)] at h0
    exact va_gets hX.1 hX.2.1 (m_va_Z_kept hz (m_keep hX)) (m_S hX hR hz1 hlo) hX.2.2.2.2.1 (hX.2.2.2.2.2.1 _ (m_in_mem hw)) (fun _ h9 => h9) (m_dec1 hM hf rfl) h0
theorem m_J_i2c (hM : m_okM M = true) (hf : (m_tb M).lookup pc = some (.i2c, t)) {x : Int32} (hJ : m_J l (m_EX E N xs) E M d mc ms PR PX tg kc ks (pc + 1, L, .int (x.toUInt32 % 65536).toInt32 :: rest, h)) : m_J l (m_EX E N xs) E M d mc ms PR PX tg kc ks (pc, L, .int x :: rest, h) := by
  intro p e s m args below meth c H locs ls hX hR hz1 hz2 hlo hL
  exact lv_i2c hX.1 hX.2.1 (m_dec1 hM hf rfl) rfl (hJ p e s m args below meth c H locs ls hX hR hz1 hz2 hlo hL)
/-- the script -/
theorem m_J_xlen (hM : m_okM M = true) (hf : (m_tb M).lookup pc = some (.arraylength, t)) (hJ : m_J l (m_EX E N xs) E M d mc ms PR PX tg kc ks (pc + 1, L, .int (nI N) :: rest, h)) : m_J l (m_EX E N xs) E M d mc ms PR PX tg kc ks (pc, L, .ref 1000000 :: rest, h) := by
  intro p e s m args below meth c H locs ls hX hR hz1 hz2 hlo hL
  have h0 : W p l e (m_rm d mc ms) s m args below meth c H locs kc ks (vx_MQ below (m_Qc E PR) (m_XC E PX) args s mc ms (fun q => E.1 ≤ q)) (F0 m (pc + 1) ls (.int (nI N) :: rest.map (m_v E))) := hJ p e s m args below meth c H locs ls hX hR hz1 hz2 hlo hL
  show W p l e (m_rm d mc ms) s m args below meth c H locs kc ks _ (F0 m pc ls (.ref (m_ad E 1000000) :: rest.map (m_v E)))
  rw [m_ext (by omega)]
  have hx := hX.2.2.2.2.2.2.2.2.2.2.1
  exact va_slen hX.1 hX.2.1 (hx.2.2.2.2.2.1.kept (m_keep hX _ (by rw [hR.2.2.2.2.2]; exact hx.2.2.2.2.2.2.1) (by have := hx.2.2.2.2.2.2.1; omega))) (Nat.lt_of_lt_of_le hx.2.2.2.2.2.2.1 hX.2.2.2.2.2.2.2.2.2.2.2.1) (Nat.not_le.mpr hx.2.2.2.2.2.2.1) (m_S hX hR hz1 hlo) (m_dec1 hM hf rfl) h0
theorem m_J_xld {i : Int32} (hM : m_okM M = true) (hf : (m_tb M).lookup pc = some (.iaload, t)) (hin : vp_in i N) (hJ : m_J l (m_EX E N xs) E M d mc ms PR PX tg kc ks (pc + 1, L, .int (xs i.toNatClampNeg) :: rest, h)) : m_J l (m_EX E N xs) E M d mc ms PR PX tg kc ks (pc, L, .int i :: .ref 1000000 :: rest, h) := by
  intro p e s m args below meth c H locs ls hX hR hz1 hz2 hlo hL
  have h0 : W p l e (m_rm d mc ms) s m args below meth c H locs kc ks (vx_MQ below (m_Qc E PR) (m_XC E PX) args s mc ms (fun q => E.1 ≤ q)) (F0 m (pc + 1) ls (.int (xs i.toNatClampNeg) :: rest.map (m_v E))) := hJ p e s m args below meth c H locs ls hX hR hz1 hz2 hlo hL
  show W p l e (m_rm d mc ms) s m args below meth c H locs kc ks _ (F0 m pc ls (.int i :: .ref (m_ad E 1000000) :: rest.map (m_v E)))
  rw [m_ext (by omega)]
  have hx := hX.2.2.2.2.2.2.2.2.2.2.1
  exact va_sld hX.1 hX.2.1 (hx.2.2.2.2.2.1.kept (m_keep hX _ (by rw [hR.2.2.2.2.2]; exact hx.2.2.2.2.2.2.1) (by have := hx.2.2.2.2.2.2.1; omega))) (Nat.lt_of_lt_of_le hx.2.2.2.2.2.2.1 hX.2.2.2.2.2.2.2.2.2.2.2.1) (Nat.not_le.mpr hx.2.2.2.2.2.2.1) (m_S hX hR hz1 hlo) hin (m_dec1 hM hf rfl) h0
end
