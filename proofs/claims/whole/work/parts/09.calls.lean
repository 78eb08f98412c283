/-! ENDS, CONTRACTS AND CALLS of the small machine -/
/-- a method's contract: with these arguments, over this heap -/
def m_Sp (l : Launch) (EX : State → Prop) (E : mE) (M : mM) (d mc ms : Nat) (as : List Value) (h : mH) (tg : Bool) (PR : Option Value → mH → Bool → Prop) (PX : String → mH → Prop) : Prop :=
  vx_Met l M.1 (m_ws M) (m_rm d mc ms) (va_Pc (as.map (m_v E)) (fun U => m_R E tg h U.heap ∧ va_K E.2.2.1 m_cl (m_tys E) U ∧ EX U)) (m_Qc E PR) (m_XC E PX) mc ms (fun q => E.1 ≤ q)
section
variable {l : Launch} {EX : State → Prop} {E : mE} {M : mM} {d mc ms : Nat} {PR : Option Value → mH → Bool → Prop} {PX : String → mH → Prop} {tg : Bool} {kc ks : Nat} {pc t : Nat} {L : List (Option Value)} {h : mH}
theorem m_J_iret (hM : m_okM M = true) (hf : (m_tb M).lookup pc = some (.ireturn, t)) {v : Int32} {ty : FieldType} (hr : M.2.2.2.1 = some ty) (hn : narrow ty (.int v) = .int v) (hc : kc ≤ mc) (hs : ks ≤ ms) (hp : PR (some (.int v)) h tg) : m_J l EX E M d mc ms PR PX tg kc ks (pc, L, [.int v], h) := by
  obtain ⟨n, hd1, hn1, -, -⟩ := m_dec hM hf
  have hd : decode M.2.1 pc = .ok (.ireturn, 1) := by rw [hd1, hn1 rfl]; rfl
  intro p e s m args below meth c H locs ls hX hR hz1 hz2 hlo hL
  refine W.widen (k := mc) (n := ms) hc hs (vx_ret ?_)
  exact W.zret hX.1 hX.2.1 (hX.2.2.1.trans hr) hn (fun t ht _ => ⟨⟨some (.int v), h, tg, rfl, hp, by rw [ht]; exact hR⟩, by rw [ht]; exact hz1⟩) hlo hd hX.2.2.2.2.2.2.2.1
theorem m_J_lret (hM : m_okM M = true) (hf : (m_tb M).lookup pc = some (.lreturn, t)) {v : Int64} (hr : M.2.2.2.1 = some .long) (hc : kc ≤ mc) (hs : ks ≤ ms) (hp : PR (some (.long v)) h tg) : m_J l EX E M d mc ms PR PX tg kc ks (pc, L, [.long v], h) := by
  obtain ⟨n, hd1, hn1, -, -⟩ := m_dec hM hf
  have hd : decode M.2.1 pc = .ok (.lreturn, 1) := by rw [hd1, hn1 rfl]; rfl
  intro p e s m args below meth c H locs ls hX hR hz1 hz2 hlo hL
  refine W.widen (k := mc) (n := ms) hc hs (vx_ret ?_)
  exact W.lret hX.1 hX.2.1 (hX.2.2.1.trans hr) (fun t ht _ => ⟨⟨some (.long v), h, tg, rfl, hp, by rw [ht]; exact hR⟩, by rw [ht]; exact hz1⟩) hlo hd hX.2.2.2.2.2.2.2.1
theorem m_J_aret (hM : m_okM M = true) (hf : (m_tb M).lookup pc = some (.areturn, t)) {a : Nat} {rt : FieldType} (hr : M.2.2.2.1 = some rt) (hrt : (∃ n, rt = .object n) ∨ ∃ t, rt = .array t) (hc : kc ≤ mc) (hs : ks ≤ ms) (hp : PR (some (.ref a)) h tg) : m_J l EX E M d mc ms PR PX tg kc ks (pc, L, [.ref a], h) := by
  obtain ⟨n, hd1, hn1, -, -⟩ := m_dec hM hf
  have hd : decode M.2.1 pc = .ok (.areturn, 1) := by rw [hd1, hn1 rfl]; rfl
  intro p e s m args below meth c H locs ls hX hR hz1 hz2 hlo hL
  refine W.widen (k := mc) (n := ms) hc hs (vx_ret ?_)
  exact W.aret hX.1 hX.2.1 (hX.2.2.1.trans hr) hrt (Or.inr ⟨_, rfl⟩) (fun t ht _ => ⟨⟨some (.ref a), h, tg, rfl, hp, by rw [ht]; exact hR⟩, by rw [ht]; exact hz1⟩) hlo hd hX.2.2.2.2.2.2.2.1
theorem m_J_vret (hM : m_okM M = true) (hf : (m_tb M).lookup pc = some (.return_, t)) (hr : M.2.2.2.1 = none) (hc : kc ≤ mc) (hs : ks ≤ ms) (hp : PR none h tg) : m_J l EX E M d mc ms PR PX tg kc ks (pc, L, [], h) := by
  obtain ⟨n, hd1, hn1, -, -⟩ := m_dec hM hf
  have hd : decode M.2.1 pc = .ok (.return_, 1) := by rw [hd1, hn1 rfl]; rfl
  intro p e s m args below meth c H locs ls hX hR hz1 hz2 hlo hL
  refine W.widen (k := mc) (n := ms) hc hs (vx_ret ?_)
  exact W.vret hX.1 hX.2.1 (hX.2.2.1.trans hr) (fun t ht _ => ⟨⟨none, h, tg, rfl, hp, by rw [ht]; exact hR⟩, by rw [ht]; exact hz1⟩) hlo hd hX.2.2.2.2.2.2.2.1
end
/-- the places at a method's entry -/
def m_ar : List Value → List (Option Value)
  | [] => []
  | v :: vs => bif v.category == 2 then some v :: none :: m_ar vs else some v :: m_ar vs
def m_ent (as : List Value) (n : Nat) : List (Option Value) := m_ar as ++ List.replicate (n - (m_ar as).length) none
theorem m_ar_args (E : mE) : ∀ (as : List Value) (k i : Nat) (v : Value), (m_ar as)[i]? = some (some v) → (k + i, m_v E v) ∈ lv_args k (as.map (m_v E)) := by
  intro as
  induction as with
  | nil => intro k i v h; simp [m_ar] at h
  | cons a as ih =>
    intro k i v h
    simp only [List.map_cons, lv_args, m_cat]
    by_cases hc : a.category = 2
    · simp only [m_ar, hc, beq_self_eq_true, cond_true] at h
      rw [if_pos hc]
      match i, h with
      | 0, h => simp at h; subst h; simp
      | 1, h => simp at h
      | i + 2, h =>
        have := ih (k + 2) i v (by simpa using h)
        rw [show k + 2 + i = k + (i + 2) by omega] at this
        exact List.mem_cons_of_mem _ this
    · have hb : (a.category == 2) = false := by simpa using hc
      simp only [m_ar, hb, cond_false] at h
      rw [if_neg hc]
      match i, h with
      | 0, h => simp at h; subst h; simp
      | i + 1, h =>
        have := ih (k + 1) i v (by simpa using h)
        rw [show k + 1 + i = k + (i + 1) by omega] at this
        exact List.mem_cons_of_mem _ this
theorem m_ar_len (E : mE) : ∀ as : List Value, (lg_sl (as.map (m_v E))).length = (m_ar as).length := by
  intro as
  induction as with
  | nil => rfl
  | cons a as ih =>
    have e : lg_sl ((a :: as).map (m_v E)) = lg_sl [m_v E a] ++ lg_sl (as.map (m_v E)) := by simp [lg_sl]
    rw [e, List.length_append, ih]
    by_cases hc : a.category = 2
    · simp [lg_sl, m_cat, m_ar, hc]; omega
    · have hb : (a.category == 2) = false := by simpa using hc
      simp [lg_sl, m_cat, m_ar, hc, hb]; omega
theorem m_ent_L (E : mE) (as : List Value) (n : Nat) (hn : (m_ar as).length ≤ n) : m_L E ((lg_sl (as.map (m_v E)) ++ List.replicate (n - (lg_sl (as.map (m_v E))).length) Slot.unset).toArray) n (m_ent as n) := by
  have h := lv_entry (as.map (m_v E)) (n := n) (by rw [m_ar_len]; exact hn)
  refine ⟨h.1, h.2.1, by simp [m_ent]; omega, fun i v hi => ?_⟩
  have hi2 : (m_ar as)[i]? = some (some v) := by
    unfold m_ent at hi
    by_cases hl : i < (m_ar as).length
    · rwa [List.getElem?_append_left hl] at hi
    · rw [List.getElem?_append_right (by omega)] at hi
      have := List.mem_of_getElem? hi
      rw [List.mem_replicate] at this
      cases this.2
  have := m_ar_args E as 0 i v hi2
  rw [Nat.zero_add] at this
  exact h.2.2 (i, m_v E v) this
theorem m_Sp_of {l : Launch} {EX : State → Prop} {E : mE} {M : mM} {d mc ms : Nat} {as : List Value} {h : mH} {tg : Bool} {PR : Option Value → mH → Bool → Prop} {PX : String → mH → Prop} (hy : plainName M.1.cls = true) (hn : (m_ar as).length ≤ M.2.2.1)
    (hJ : m_J l EX E M d mc ms PR PX tg 0 0 (0, m_ent as M.2.2.1, [], h)) : m_Sp l EX E M d mc ms as h tg PR PX := by
  obtain ⟨y, bytes, maxL, ret, hh, o, tb⟩ := M
  have body : ∀ (p : Program) (e : Env) (s : State) (m : MethodId) (args : Array Value) (below : List Frame) (meth : Method) (c : Code) (s₁ : State), BodyLoose p l y (headSpec (m_ws (y, bytes, maxL, ret, hh, o, tb)) (m_rm d mc ms)) bytes maxL ret e s m args below meth c s₁ → c.maxLocals = maxL → c.exceptionTable.toList = tableOf hh →
      va_Pc (as.map (m_v E)) (fun U => m_R E tg h U.heap ∧ va_K E.2.2.1 m_cl (m_tys E) U ∧ EX U) args s → W p l e (headSpec (m_ws (y, bytes, maxL, ret, hh, o, tb)) (m_rm d mc ms)).room s m args below meth c s.heap [] 0 0 (vx_MQ below (m_Qc E PR) (m_XC E PX) args s mc ms (fun q => E.1 ≤ q)) (entryFrame m args maxL) := by
    intro p e s m args below meth c s₁ B hml htab hv
    obtain ⟨rfl, hR, hK, hE⟩ := hv
    have hts := atoms_spec (ws := m_ws (y, bytes, maxL, ret, hh, o, tb)) B.pre
    rw [lg_entry_eq]
    exact hJ p e s m _ below meth c s.heap [] _ ⟨B.exec, B.bytes, B.returns, hml, findClass_of_methodNamed B.named, fun w hw => hts w (List.mem_cons_of_mem _ hw), hK, B.notSynchronized, (name_of_methodNamed B.named B.method).1, htab, hE, Nat.le_trans (Nat.le_add_right _ _) hR.2.1, hR.2.2.2.1⟩ hR (Nat.le_refl _) (fun ht => by have := hR.2.2.1 ht; exact this) (fun q hq => by cases hq) (m_ent_L E as maxL hn)
  cases hh with
  | nil =>
    refine vx_ofW (cc := bytes) (maxL := maxL) (ret := ret) hy rfl ?_
    intro p e s m args below meth c s₁ B hml ht hv
    refine body p e s m args below meth c s₁ B hml ?_ hv
    cases hl : c.exceptionTable.toList with
    | nil => rfl
    | cons x xs => exact (ht x (by rw [hl]; simp)).elim
  | cons q hh =>
    refine vx_ofWH (cc := bytes) (maxL := maxL) (ret := ret) (hh := q :: hh) hy rfl ?_
    intro p e s m args below meth c s₁ B hml hv
    exact body p e s m args below meth c s₁ B hml (vx_table (x := y) B (atoms_spec (ws := m_ws (y, bytes, maxL, ret, q :: hh, o, tb)) B.pre _ List.mem_cons_self)) hv
/-- a throw that has come over this body's frame, at pc -/
def m_JX (l : Launch) (EX : State → Prop) (E : mE) (M : mM) (d mc ms : Nat) (PR : Option Value → mH → Bool → Prop) (PX : String → mH → Prop) (kc ks : Nat) (nm : String) (pc : Nat) (L : List (Option Value)) (h : mH) : Prop :=
  ∀ (p : Program) (e : Env) (s : State) (m : MethodId) (args : Array Value) (below : List Frame) (meth : Method) (c : Code) (H : Heap) (locs : List Loc) (ls : Array Slot) (q : Addr) (ce : Cell) (rest : List Value),
    m_X EX E M p s m args meth c → m_R E false h H → s.heap.size ≤ H.size → (∀ q ∈ locs, E.1 ≤ q.base) → m_L E ls M.2.2.1 L → H[q]? = some ce → ce.vm = .none → s.vm.findClass nm = some ce.cls →
    vx_W p l e (m_rm d mc ms) s m args below meth c H locs kc ks (vx_MQ below (m_Qc E PR) (m_XC E PX) args s mc ms (fun q => E.1 ≤ q)) (F0 m pc ls rest) q
theorem m_JX_out {l : Launch} {EX : State → Prop} {E : mE} {M : mM} {d mc ms : Nat} {PR : Option Value → mH → Bool → Prop} {PX : String → mH → Prop} {kc ks : Nat} {nm : String} {pc : Nat} {L : List (Option Value)} {h : mH} (hh : M.2.2.2.2.1 = []) (hc : kc ≤ mc) (hs : ks ≤ ms) (hp : PX nm h) : m_JX l EX E M d mc ms PR PX kc ks nm pc L h := by
  intro p e s m args below meth c H locs ls q ce rest hX hR hz1 hlo hL hq hv hcl
  refine vx_out (fun x hx => ?_) hX.2.2.2.2.2.2.2.1 hq hv hcl (fun t ht _ => ⟨⟨h, hp, by rw [ht]; exact hR⟩, by rw [ht]; exact hz1⟩) hlo hc hs
  rw [hX.2.2.2.2.2.2.2.2.2.1, hh] at hx
  cases hx
theorem m_blind {E : mE} {tg : Bool} {h : mH} {EX : State → Prop} (hEX : ∀ s U : State, s.WarmedH U.vm → EX s → EX U) (av : List Value) : FrameBlind (va_Pc av (fun U => m_R E tg h U.heap ∧ va_K E.2.2.1 m_cl (m_tys E) U ∧ EX U)) := by
  intro a U g mk q
  obtain ⟨q0, q1, q2, q3⟩ := q
  exact ⟨q0, q1, va_K.moved (u := U) (U := U.calling g mk a) (Vm.Alike.refl U.vm) q2, hEX U _ (State.WarmedH.refl U) q3⟩
section
variable {l : Launch} {EX : State → Prop} {E : mE} {M M' : mM} {d mc ms : Nat} {PR : Option Value → mH → Bool → Prop} {PX : String → mH → Prop} {tg : Bool} {kc ks : Nat} {pc t : Nat} {L : List (Option Value)} {h : mH}
variable {p : Program} {e : Env} {s : State} {m : MethodId} {args : Array Value} {below : List Frame} {meth : Method} {c : Code} {mc' ms' : Nat} {as rest : List Value} {PR' : Option Value → mH → Bool → Prop} {PX' : String → mH → Prop}
theorem m_mem_tbl {w : Cond} (hX : m_X EX E M p s m args meth c) (hw : w ∈ m_tbl) : ∀ (a' : Array Value) (U : State), s.WarmedH U.vm → w.before a' U = true :=
  fun a' U hW => m_word_at hW (List.mem_filter.mp hw).2 (hX.2.2.2.2.2.1 w hw)
theorem m_vback (hX : m_X EX E M p s m args meth c) (hEX : ∀ s U : State, s.WarmedH U.vm → EX s → EX U) (hsp : m_Sp l EX E M' d mc' ms' as h tg PR' PX') (hcode : m_in (m_w1 M') = true) (hini : m_in (.initialized M'.1.cls) = true) (hmx : M'.2.2.1 ≤ 49) :
    vx_Back l (m_rm (d + 1) mc ms) p e below s args M'.1 3 40 (PreOf (m_rm (d + 1) mc ms) mc' ms' (va_Pc (as.map (m_v E)) (fun U => m_R E tg h U.heap ∧ va_K E.2.2.1 m_cl (m_tys E) U ∧ EX U))) (PostOf (m_Qc E PR') mc' ms' (fun q => E.1 ≤ q)) (vx_Post (m_XC E PX') mc' ms' (fun q => E.1 ≤ q)) := by
  have hws : ∀ w ∈ m_ws M', ∀ (a' : Array Value) (U : State), s.WarmedH U.vm → w.before a' U = true := by
    intro w hw
    rcases List.mem_cons.mp hw with rfl | hw
    · exact m_mem_tbl hX (m_in_mem hcode)
    · exact m_mem_tbl hX hw
  have hfr : (m_rm d mc' ms').frames + 1 ≤ (m_rm (d + 1) mc ms).frames := by simp [m_rm]; omega
  have hlo : 40 + (M'.2.2.1 + 11) + (m_rm d mc' ms').locals ≤ (m_rm (d + 1) mc ms).locals := by simp [m_rm]; omega
  obtain ⟨y, bytes, maxL, ret, hh, o, tb⟩ := M'
  cases hh with
  | nil => exact vx_back (bytes := bytes) (maxL := maxL) (ret := ret) hsp (m_blind hEX _) rfl rfl hfr hlo hws List.mem_cons_self (fun a' U hW => m_mem_tbl hX (m_in_mem hini) a' U hW)
  | cons q hh => exact vx_backW (bytes := bytes) (maxL := maxL) (ret := ret) (hh := q :: hh) hsp (m_blind hEX _) rfl rfl hfr hlo hws List.mem_cons_self (fun a' U hW => m_mem_tbl hX (m_in_mem hini) a' U hW)
theorem m_vl (E : mE) (v : Option Value) (rest : List Value) : (v.map (m_v E)).toList ++ rest.map (m_v E) = (v.toList ++ rest).map (m_v E) := by cases v <;> simp
/-- behind a call: it returned, or threw -/
theorem m_after {H : Heap} {locs : List Loc} {ls : Array Slot} {T : State} {st : List Value} {aa : Array Value} {Q : State → Prop} {R : Room}
    (hz1 : s.heap.size ≤ H.size) (hz2 : tg = true → s.heap.size + kc ≤ E.1 + h.length) (hlo : ∀ q ∈ locs, E.1 ≤ q.base) (hT : T.heap = H)
    (kR : ∀ v h' tg', PR' v h' tg' → (tg' = true → tg = true ∧ h.length + mc' ≤ h'.length) ∧ ∀ H1 locs1, m_R E tg' h' H1 → s.heap.size ≤ H1.size → (tg' = true → s.heap.size + (kc + mc') ≤ E.1 + h'.length) → (∀ q ∈ locs1, E.1 ≤ q.base) → W p l e R s m args below meth c H1 locs1 (kc + mc') (ks + ms') Q (F0 m (pc + 3) ls ((v.toList ++ rest).map (m_v E))))
    (kX : ∀ nm h', PX' nm h' → ∀ H1 locs1 q ce, m_R E false h' H1 → s.heap.size ≤ H1.size → (∀ q ∈ locs1, E.1 ≤ q.base) → H1[q]? = some ce → ce.vm = .none → s.vm.findClass nm = some ce.cls → vx_W p l e R s m args below meth c H1 locs1 (kc + mc') (ks + ms') Q (F0 m pc ls (rest.map (m_v E))) q)
    (hr : (∃ (v : Option Value) (vm₁ : Vm) (B : Pt), s.WarmedH vm₁ ∧ Stand p l e R s m args below meth c B.U B.locs B.cells B.slots ∧ PostOf (m_Qc E PR') mc' ms' (fun q => E.1 ≤ q) ⟨T.setVm vm₁, locs, kc, ks⟩ aa v B ∧
      ∀ target, Steps p.tables e below (B.U.setTop { F0 m pc ls st with pc := pc + 3, stack := v.toList ++ rest.map (m_v E) }) target → Steps p.tables e below (T.setTop (F0 m pc ls st)) target) ∨
    (∃ (q : Addr) (vm₁ : Vm) (B : Pt), s.WarmedH vm₁ ∧ Stand p l e R s m args below meth c B.U B.locs B.cells B.slots ∧ vx_Post (m_XC E PX') mc' ms' (fun q => E.1 ≤ q) ⟨T.setVm vm₁, locs, kc, ks⟩ aa q B ∧
      Steps p.tables e below (T.setTop (F0 m pc ls st)) ((B.U.setTop { F0 m pc ls st with stack := rest.map (m_v E) }).pushFrame (.throwing q)))) :
    ∃ t, Steps p.tables e below (T.setTop (F0 m pc ls st)) t ∧ Q t := by
  rcases hr with ⟨v, vm₁, ⟨U', l2, c2, s2⟩, hW₁, X', ⟨g', mk, t, LL, e1, e2, hq, h1, hL1, h2, h3⟩, stp⟩ | ⟨q, vm₁, ⟨U', l2, c2, s2⟩, hW₁, X', ⟨g', mk, t, LL, nm, ce, e1, e2, hx, hce, hcv, hcl, h1, hL1, h2, h3⟩, stp⟩
  · dsimp only [Pt.U, Pt.locs, Pt.cells, Pt.slots] at X' e1 e2 h1 h2 h3 stp
    subst h1; subst h2; subst h3
    obtain ⟨⟨v', h', tg', ev, hp, hR1⟩, hsz⟩ := hq
    cases ev
    have hsz2 : H.size ≤ U'.heap.size := by rw [e1, ← hT]; exact hsz
    obtain ⟨htt, kk⟩ := kR v' h' tg' hp
    obtain ⟨t2, a1, b1⟩ := kk U'.heap (locs ++ LL) (by rw [e1]; exact hR1) (Nat.le_trans hz1 hsz2) (fun ht => by
        obtain ⟨ht1, hl⟩ := htt ht
        have := hz2 ht1
        omega) (fun q hq => by
        rcases List.mem_append.mp hq with hq | hq
        · exact hlo q hq
        · exact hL1 q hq) U' rfl X'
    rw [← m_vl] at a1
    exact ⟨t2, stp t2 a1, b1⟩
  · dsimp only [Pt.U, Pt.locs, Pt.cells, Pt.slots] at X' e1 e2 h1 h2 h3 stp hcl
    subst h1; subst h2; subst h3
    obtain ⟨⟨h', hp, hR1⟩, hsz⟩ := hx
    have hsz2 : H.size ≤ U'.heap.size := by rw [e1, ← hT]; exact hsz
    obtain ⟨t2, a1, b1⟩ := kX nm h' hp U'.heap (locs ++ LL) q ce (by rw [e1]; exact hR1) (Nat.le_trans hz1 hsz2) (fun q hq => by
        rcases List.mem_append.mp hq with hq | hq
        · exact hlo q hq
        · exact hL1 q hq) (by rw [e1]; exact hce) hcv (vx_cls hW₁ hcl) U' rfl X'
    exact ⟨t2, stp.trans a1, b1⟩
end
theorem m_cw0_spec {M' : mM} {n : Nat} (h : m_cw0 M' n = true) : m_in (m_w1 M') = true ∧ m_in (.initialized M'.1.cls) = true ∧ M'.2.2.1 ≤ 49 ∧ (∀ sig, parseMethodDescriptor M'.1.desc = some sig → n = sig.parameters.length) ∧ (M'.1.cls ≠ "java/lang/invoke/MethodHandle" ∧ M'.1.cls ≠ "java/lang/invoke/VarHandle") := by
  simp only [m_cw0, Bool.and_eq_true, decide_eq_true_eq] at h
  obtain ⟨⟨⟨⟨⟨h1, h2⟩, h3⟩, h4⟩, h5⟩, h6⟩ := h
  refine ⟨h1, h2, Nat.le_of_ble_eq_true h3, fun sig hs => ?_, h5, h6⟩
  unfold m_ar1 at h4
  rw [hs] at h4
  exact (of_decide_eq_true h4).symm
section
variable {l : Launch} {EX : State → Prop} {E : mE} {M M' : mM} {d mc ms : Nat} {PR : Option Value → mH → Bool → Prop} {PX : String → mH → Prop} {tg : Bool} {kc ks : Nat} {pc t : Nat} {L : List (Option Value)} {h : mH}
variable {mc' ms' i : Nat} {as rest st : List Value} {PR' : Option Value → mH → Bool → Prop} {PX' : String → mH → Prop}
set_option maxHeartbeats 1000000 in
theorem m_J_callS (hEX : ∀ s U : State, s.WarmedH U.vm → EX s → EX U) (hM : m_okM M = true) (hf : (m_tb M).lookup pc = some (.invokestatic i, t)) {n0 : Nat} (hcw : m_cwS M.1.cls i M' n0 = true) (hn0 : as.length = n0) (hst : st = as.reverse ++ rest) (hrs : (rest.map fun v => v.category).sum ≤ 40) (hc : kc + mc' ≤ mc) (hs : ks + ms' ≤ ms)
    (hsp : m_Sp l EX E M' d mc' ms' as h tg PR' PX')
    (kR : ∀ v h' tg', PR' v h' tg' → (tg' = true → tg = true ∧ h.length + mc' ≤ h'.length) ∧ m_J l EX E M (d + 1) mc ms PR PX tg' (kc + mc') (ks + ms') (pc + 3, L, v.toList ++ rest, h'))
    (kX : ∀ nm h', PX' nm h' → m_JX l EX E M (d + 1) mc ms PR PX (kc + mc') (ks + ms') nm pc L h') : m_J l EX E M (d + 1) mc ms PR PX tg kc ks (pc, L, st, h) := by
  subst hst
  subst hn0
  obtain ⟨n, hd1, hn1, -, -⟩ := m_dec hM hf
  have hd : decode M.2.1 pc = .ok (.invokestatic i, 3) := by rw [hd1, hn1 rfl]; rfl
  simp only [m_cwS, Bool.and_eq_true] at hcw
  obtain ⟨⟨hcw, hl1⟩, hl2⟩ := hcw
  obtain ⟨w1, w2, w3, w4, w5⟩ := m_cw0_spec hcw
  intro p e s m args below meth c H locs ls hX hR hz1 hz2 hlo hL T hT X
  have hb : decode c.code (F0 m pc ls ((as.reverse ++ rest).map (m_v E))).pc = .ok (.invokestatic i, 3) := by rw [hX.2.1]; exact hd
  have hK := m_vback (p := p) (e := e) (below := below) (mc := mc) (ms := ms) hX hEX hsp w1 w2 w3
  have hstk : (F0 m pc ls ((as.reverse ++ rest).map (m_v E))).stack = (as.map (m_v E)).reverse ++ rest.map (m_v E) := by simp
  have hcat : 2 * (F0 m pc ls ((as.reverse ++ rest).map (m_v E))).monitorRoom + ((rest.map (m_v E)).map fun v => v.category).sum ≤ 40 := by
    have e0 : (rest.map (m_v E)).map (fun v => v.category) = rest.map (fun v => v.category) := by rw [List.map_map]; exact List.map_congr_left (fun v _ => m_cat E v)
    rw [e0]; simpa [JFrame.monitorRoom] using hrs
  have hpre : ∀ vm₁, s.WarmedH vm₁ → PreOf (m_rm (d + 1) mc ms) mc' ms' (va_Pc (as.map (m_v E)) (fun U => m_R E tg h U.heap ∧ va_K E.2.2.1 m_cl (m_tys E) U ∧ EX U)) ⟨T.setVm vm₁, locs, kc, ks⟩ (as.map (m_v E)).toArray :=
    fun vm₁ hW₁ => ⟨hc, hs, rfl, by show m_R E tg h T.heap; rw [hT]; exact hR, va_K.moved (u := s) (U := T.setVm vm₁) hW₁.alike hX.2.2.2.2.2.2.1, hEX s (T.setVm vm₁) hW₁ hX.2.2.2.2.2.2.2.2.2.2.1⟩
  have hcode := m_mem_tbl hX (m_in_mem w1) args s (State.WarmedH.refl s)
  obtain ⟨y, bytes, maxL, ret, hh, o, tb⟩ := M'
  refine m_after (mc' := mc') (ms' := ms') (PR' := PR') (PX' := PX') hz1 hz2 hlo hT (fun v h' tg' hp => ⟨(kR v h' tg' hp).1, fun H1 locs1 a1 a2 a3 a4 => (kR v h' tg' hp).2 p e s m args below meth c H1 locs1 ls hX a1 a2 a3 a4 hL⟩) (fun nm h' hp H1 locs1 q ce a1 a2 a3 a4 a5 a6 => kX nm h' hp p e s m args below meth c H1 locs1 ls q ce _ hX a1 a2 a3 hL a4 a5 a6) (aa := (as.map (m_v E)).toArray) ?_
  cases hh with
  | nil => exact vx_callS X hX.1 (bytes := bytes) (maxL := maxL) (ret := ret) hX.2.2.2.2.1 (hX.2.2.2.2.2.1 _ (m_in_mem hl1)) (hX.2.2.2.2.2.1 _ (m_in_mem hl2)) (hX.2.2.2.2.2.1 _ (m_in_mem w2)) hcode w5 hK rfl (hL.1.trans hX.2.2.2.1.symm) (argsL := as.map (m_v E)) (fun sig hs => by rw [List.length_map]; exact w4 sig hs) hstk hcat hb hpre
  | cons q hh => exact vx_callSX X hX.1 (bytes := bytes) (maxL := maxL) (ret := ret) (hh := q :: hh) hX.2.2.2.2.1 (hX.2.2.2.2.2.1 _ (m_in_mem hl1)) (hX.2.2.2.2.2.1 _ (m_in_mem hl2)) (hX.2.2.2.2.2.1 _ (m_in_mem w2)) hcode w5 hK rfl (hL.1.trans hX.2.2.2.1.symm) (argsL := as.map (m_v E)) (fun sig hs => by rw [List.length_map]; exact w4 sig hs) hstk hcat hb hpre
set_option maxHeartbeats 1000000 in
theorem m_J_callV (hEX : ∀ s U : State, s.WarmedH U.vm → EX s → EX U) (hM : m_okM M = true) (hf : (m_tb M).lookup pc = some (.invokevirtual i, t)) {n0 : Nat} (hcw : m_cwV M.1.cls i M' n0 = true) (hn0 : as.length = n0) (hh0 : M'.2.2.2.2.1 = []) {b ci : Nat} {fs : List Value} (hst : st = as.reverse ++ .ref b :: rest) (hob : h[b]? = some (.inr (ci, fs))) (hci : ∃ r, m_cl[ci]? = some r ∧ r.1 = M'.1.cls) (hrs : (rest.map fun v => v.category).sum ≤ 40) (hc : kc + mc' ≤ mc) (hs : ks + ms' ≤ ms)
    (hsp : m_Sp l EX E M' d mc' ms' (.ref b :: as) h tg PR' PX')
    (kR : ∀ v h' tg', PR' v h' tg' → (tg' = true → tg = true ∧ h.length + mc' ≤ h'.length) ∧ m_J l EX E M (d + 1) mc ms PR PX tg' (kc + mc') (ks + ms') (pc + 3, L, v.toList ++ rest, h'))
    (kX : ∀ nm h', PX' nm h' → m_JX l EX E M (d + 1) mc ms PR PX (kc + mc') (ks + ms') nm pc L h') : m_J l EX E M (d + 1) mc ms PR PX tg kc ks (pc, L, st, h) := by
  subst hst
  subst hn0
  obtain ⟨n, hd1, hn1, -, -⟩ := m_dec hM hf
  have hd : decode M.2.1 pc = .ok (.invokevirtual i, 3) := by rw [hd1, hn1 rfl]; rfl
  simp only [m_cwV, Bool.and_eq_true] at hcw
  obtain ⟨⟨⟨hcw, hl1⟩, hl2⟩, hl3⟩ := hcw
  obtain ⟨w1, w2, w3, w4, w5⟩ := m_cw0_spec hcw
  intro p e s m args below meth c H locs ls hX hR hz1 hz2 hlo hL T hT X
  have hb : decode c.code (F0 m pc ls ((as.reverse ++ .ref b :: rest).map (m_v E))).pc = .ok (.invokevirtual i, 3) := by rw [hX.2.1]; exact hd
  have hK := m_vback (p := p) (e := e) (below := below) (mc := mc) (ms := ms) hX hEX hsp w1 w2 w3
  have hstk : (F0 m pc ls ((as.reverse ++ .ref b :: rest).map (m_v E))).stack = (as.map (m_v E)).reverse ++ .ref (m_ad E b) :: rest.map (m_v E) := by simp [m_v]
  have hcat : 2 * (F0 m pc ls ((as.reverse ++ .ref b :: rest).map (m_v E))).monitorRoom + ((rest.map (m_v E)).map fun v => v.category).sum ≤ 40 := by
    have e0 : (rest.map (m_v E)).map (fun v => v.category) = rest.map (fun v => v.category) := by rw [List.map_map]; exact List.map_congr_left (fun v _ => m_cat E v)
    rw [e0]; simpa [JFrame.monitorRoom] using hrs
  have hpre : ∀ vm₁, s.WarmedH vm₁ → PreOf (m_rm (d + 1) mc ms) mc' ms' (va_Pc ((Value.ref b :: as).map (m_v E)) (fun U => m_R E tg h U.heap ∧ va_K E.2.2.1 m_cl (m_tys E) U ∧ EX U)) ⟨T.setVm vm₁, locs, kc, ks⟩ (Value.ref (m_ad E b) :: as.map (m_v E)).toArray :=
    fun vm₁ hW₁ => ⟨hc, hs, rfl, by show m_R E tg h T.heap; rw [hT]; exact hR, va_K.moved (u := s) (U := T.setVm vm₁) hW₁.alike hX.2.2.2.2.2.2.1, hEX s (T.setVm vm₁) hW₁ hX.2.2.2.2.2.2.2.2.2.2.1⟩
  have hcode := m_mem_tbl hX (m_in_mem w1) args s (State.WarmedH.refl s)
  obtain ⟨r, hr1, hr2⟩ := hci
  obtain ⟨cellB, hcB, hoB, hclB⟩ := va_recv hX.2.2.2.2.2.2.1 hR.1 hr1 (m_W_get (E := E) hob)
  obtain ⟨y, bytes, maxL, ret, hh, o, tb⟩ := M'
  dsimp only at hh0 hr2
  subst hh0
  refine m_after (mc' := mc') (ms' := ms') (PR' := PR') (PX' := PX') hz1 hz2 hlo hT (fun v h' tg' hp => ⟨(kR v h' tg' hp).1, fun H1 locs1 a1 a2 a3 a4 => (kR v h' tg' hp).2 p e s m args below meth c H1 locs1 ls hX a1 a2 a3 a4 hL⟩) (fun nm h' hp H1 locs1 q ce a1 a2 a3 a4 a5 a6 => kX nm h' hp p e s m args below meth c H1 locs1 ls q ce _ hX a1 a2 a3 hL a4 a5 a6) (aa := (Value.ref (m_ad E b) :: as.map (m_v E)).toArray) ?_
  exact vx_callV X hX.1 (C := y.cls) (bytes := bytes) (maxL := maxL) (ret := ret) hX.2.2.2.2.1 (hX.2.2.2.2.2.1 _ (m_in_mem hl1)) (hX.2.2.2.2.2.1 _ (m_in_mem hl2)) (hX.2.2.2.2.2.1 _ (m_in_mem hl3)) hcode w5 hK (by rw [hT]; exact hcB) hoB (by rw [← hr2]; exact hclB) rfl (hL.1.trans hX.2.2.2.1.symm) (argsL := as.map (m_v E)) (fun sig hs => by rw [List.length_map]; exact w4 sig hs) hstk hcat hb hpre
end
