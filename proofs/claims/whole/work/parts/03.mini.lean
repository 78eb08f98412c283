/-! THE SMALL MACHINE: methods as tables of instructions, a heap of cells by number, locals by place; a step is a function. Below: what a step of it says of the real machine. -/
/-- base address, addresses of things outside, the classes' numbers and slots, the array classes, the heap at the start -/
abbrev mE : Type := Nat × (Nat → Nat) × va_G × (Nat → ClassId) × Heap
abbrev mH : Type := List va_E
/-- name, bytes, places, answer, handlers, number of the own class, instructions -/
abbrev mM : Type := MethodName × ByteArray × Nat × Option FieldType × List (Nat × Nat × Nat × Nat) × Nat × List (Nat × Instr × Nat)
abbrev mS : Type := Nat × List (Option Value) × List Value × mH
def m_ad (E : mE) (k : Nat) : Nat := if k < 1000000 then E.1 + k else E.2.1 k
def m_v (E : mE) : Value → Value
  | .ref a => .ref (m_ad E a)
  | v => v
def m_c (E : mE) : va_E → va_E
  | .inr o => .inr (o.1, o.2.map (m_v E))
  | .inl (t, n, .inr (.inr (.inr (.inr g)))) => .inl (E.2.2.2.1 t, n, .inr (.inr (.inr (.inr (fun i => (g i).map (m_ad E))))))
  | .inl (t, n, x) => .inl (E.2.2.2.1 t, n, x)
def m_W (E : mE) (h : mH) : va_W := h.mapIdx (fun k c => (m_ad E k, m_c E c))
/-- the kinds of arrays -/
def m_ty : List FieldType := [.int, .long, .byte, .boolean, .object "LandUses$Line", .object "LandUses$Uses", .array .long]
def m_tys (E : mE) : List (ClassId × FieldType) := m_ty.mapIdx (fun k t => (E.2.2.2.1 k, t))
abbrev m_cl : List vw_C := [(RX0, TX0, 2), (RX1, TX1, 3), (RX2, TX2, 7), (RX3, TX3, 3), (RX4, TX4, 8), (RX6, TX6, 2), (RX7, TX7, 1), (RX8, TX8, 14), (RX9, TX9, 33)]
def m_R (E : mE) (tg : Bool) (h : mH) (H : Heap) : Prop :=
  va_P E.2.2.1 m_cl (m_W E h) H ∧ E.1 + h.length ≤ H.size ∧ (tg = true → H.size ≤ E.1 + h.length) ∧ (∀ q, q < E.1 → H[q]? = E.2.2.2.2[q]?) ∧ h.length ≤ 1000000 ∧ E.2.2.2.2.size = E.1
def m_L (E : mE) (ls : Array Slot) (nL : Nat) (L : List (Option Value)) : Prop :=
  ls.size = nL ∧ lv_wf ls ∧ L.length = nL ∧ ∀ (i : Nat) (v : Value), L[i]? = some (some v) → ls[i]? = some (Slot.val (m_v E v))
def m_rm (d mc ms : Nat) : Room := { frames := 8 + d, cells := mc, slots := ms, locals := 300 + 100 * d }
theorem m_cat (E : mE) (v : Value) : (m_v E v).category = v.category := by cases v <;> rfl
theorem m_W_get {E : mE} {h : mH} {k : Nat} {c : va_E} (hk : h[k]? = some c) : (m_W E h)[k]? = some (m_ad E k, m_c E c) := by
  simp [m_W, List.getElem?_mapIdx, hk]
theorem m_W_set (E : mE) (h : mH) (k : Nat) (c : va_E) : (m_W E h).set k (m_ad E k, m_c E c) = m_W E (h.set k c) := by
  apply List.ext_getElem?
  intro i
  simp only [m_W, List.getElem?_set, List.getElem?_mapIdx, List.length_mapIdx]
  by_cases hi : k = i
  · subst hi
    by_cases hl : k < h.length <;> simp [hl]
  · simp [hi]
theorem m_tys_get (E : mE) {t : Nat} {ty : FieldType} (h : m_ty[t]? = some ty) : (m_tys E)[t]? = some (E.2.2.2.1 t, ty) := by
  simp [m_tys, List.getElem?_mapIdx, h]
theorem m_D {E : mE} {h : mH} (hl : h.length ≤ 1000000) : va_D (fun q => E.1 ≤ q) (m_W E h) := by
  have key : ∀ (i : Nat) (p : Nat × va_E), (m_W E h)[i]? = some p → i < 1000000 ∧ p.1 = E.1 + i := by
    intro i p hp
    have hi : i < (m_W E h).length := (List.getElem?_eq_some_iff.mp hp).1
    have hi2 : i < 1000000 := by simp [m_W] at hi; omega
    simp only [m_W, List.getElem?_mapIdx] at hp
    cases hc : h[i]? with
    | none => rw [hc] at hp; simp at hp
    | some c =>
      rw [hc] at hp
      simp only [Option.map_some, Option.some.injEq] at hp
      subst hp
      exact ⟨hi2, by simp [m_ad, hi2]⟩
  refine ⟨fun i j p q hp hq e => ?_, fun k q hq => ?_⟩
  · have a := (key i p hp).2
    have b := (key j q hq).2
    omega
  · rw [(key k q hq).2]; exact Nat.le_add_right _ _
/-- the words that every method has -/
def m_good : Cond → Bool
  | .arrayClass _ => true
  | w => w.onTables && (w.keepsH || w.keepsFace)
theorem m_word_at {args a' : Array Value} {s U : State} (hW : s.WarmedH U.vm) {w : Cond} (hc : m_good w = true) (h : w.before args s = true) : w.before a' U = true := by
  have key : (w.onTables && (w.keepsH || w.keepsFace)) = true → w.before a' U = true := fun hk => by
    simp only [Bool.and_eq_true, Bool.or_eq_true] at hk
    rcases hk with ⟨h1, h2 | h2⟩
    · have h3 := Cond.onTables_warmH (T := U) (args' := a') hW h1 h2 h
      rwa [State.setVm_self] at h3
    · have h3 : w.before args (s.setVm U.vm) = true := Cond.before_shiftedFace (State.Shifted.of_warmed hW) _ h2 h
      exact va_tabs h1 (rfl : (s.setVm U.vm).vm = U.vm) h3
  cases w with
  | arrayClass ty => exact word_at hW (Or.inr ⟨ty, rfl⟩) h
  | _ => exact key hc
def m_tbl : List Cond := lw_tbl.filter m_good
def m_w1 (M : mM) : Cond := match M.2.2.2.2.1 with
  | [] => .code M.1 M.2.1 M.2.2.1 M.2.2.2.1
  | hh => .codeWith M.1 M.2.1 M.2.2.1 M.2.2.2.1 hh
def m_ws (M : mM) : List Cond := m_w1 M :: m_tbl
/-- the machine around a body -/
def m_X (EX : State → Prop) (E : mE) (M : mM) (p : Program) (s : State) (m : MethodId) (args : Array Value) (meth : Method) (c : Code) : Prop :=
  p.tables.exec = Jvm.exec ∧ c.code = M.2.1 ∧ meth.sig.returnType = M.2.2.2.1 ∧ c.maxLocals = M.2.2.1 ∧ s.vm.findClass M.1.cls = some m.cls ∧ (∀ w ∈ m_tbl, w.before args s = true) ∧ va_K E.2.2.1 m_cl (m_tys E) s ∧ meth.locks = false ∧ meth.name = M.1.name ∧ c.exceptionTable.toList = tableOf M.2.2.2.2.1 ∧ EX s ∧ E.1 ≤ s.heap.size ∧ (∀ q, q < E.1 → s.heap[q]? = E.2.2.2.2[q]?)
def m_Qc (E : mE) (PR : Option Value → mH → Bool → Prop) : Array Value → State → Outcome → State → Prop := fun _ st o t =>
  (∃ (v : Option Value) (h : mH) (tg : Bool), o = .returned (v.map (m_v E)) ∧ PR v h tg ∧ m_R E tg h t.heap) ∧ st.heap.size ≤ t.heap.size
def m_XC (E : mE) (PX : String → mH → Prop) : String → State → State → Prop := fun nm st t =>
  (∃ h : mH, PX nm h ∧ m_R E false h t.heap) ∧ st.heap.size ≤ t.heap.size
/-- THE JUDGEMENT: from this point of the body the method comes to an end that PR or PX allows -/
def m_J (l : Launch) (EX : State → Prop) (E : mE) (M : mM) (d mc ms : Nat) (PR : Option Value → mH → Bool → Prop) (PX : String → mH → Prop) (tg : Bool) (kc ks : Nat) (S : mS) : Prop :=
  ∀ (p : Program) (e : Env) (s : State) (m : MethodId) (args : Array Value) (below : List Frame) (meth : Method) (c : Code) (H : Heap) (locs : List Loc) (ls : Array Slot),
    m_X EX E M p s m args meth c → m_R E tg S.2.2.2 H → s.heap.size ≤ H.size → (tg = true → s.heap.size + kc ≤ E.1 + S.2.2.2.length) → (∀ q ∈ locs, E.1 ≤ q.base) → m_L E ls M.2.2.1 S.2.1 →
    W p l e (m_rm d mc ms) s m args below meth c H locs kc ks (vx_MQ below (m_Qc E PR) (m_XC E PX) args s mc ms (fun q => E.1 ≤ q)) (F0 m S.1 ls (S.2.2.1.map (m_v E)))
/-- the heap is never larger than what was counted -/
theorem m_size {p : Program} {l : Launch} {e : Env} {R : Room} {s : State} {m : MethodId} {args : Array Value} {below : List Frame} {meth : Method} {c : Code} {H : Heap} {locs : List Loc} {cells slots : Nat} {Q : State → Prop} {g : JFrame}
    (k : H.size ≤ s.heap.size + cells → s.heap.size ≤ H.size → W p l e R s m args below meth c H locs cells slots Q g) : W p l e R s m args below meth c H locs cells slots Q g := by
  intro T hT X
  have h := X.same
  have h2 : T.heap.size ≤ s.heap.size + cells := h.2.2.1
  have h3 : s.heap.size ≤ T.heap.size := h.2.1
  rw [hT] at h2 h3
  exact k h2 h3 T hT X
