section
def va_AOA (ty : FieldType) (U : State) : Prop := (Cond.arrayOver (.array ty)).before #[] U = true
theorem va_AOA.use {ty : FieldType} {A : Array Value} {U : State} (h : va_AOA ty U) : (Cond.arrayOver (.array ty)).before A U = true := h
/-! ===== BEGIN words of one list among another's, by their places ===== -/
theorem goodIn_r {big : List Cond} (ws : List Cond) (ps : List Nat) (hp : ws = ps.filterMap (fun i => big[i]?)) (h : ws.all goodWord = true) : GoodIn big ws := by
  intro w hw
  have h1 := List.all_eq_true.mp h w hw
  rw [hp] at hw
  obtain ⟨i, -, hi⟩ := List.mem_filterMap.mp hw
  have hm : w ∈ big := by first | exact List.mem_of_getElem? hi | exact List.getElem?_mem hi
  exact ⟨hm, good_of_word h1⟩
theorem goodIn_app {big a b : List Cond} (ha : GoodIn big a) (hb : GoodIn big b) : GoodIn big (a ++ b) := fun w h => (List.mem_append.mp h).elim (ha w) (hb w)
theorem goodIn_ca {big a b : List Cond} {c : Cond} (ha : GoodIn big (c :: a)) (hb : GoodIn big b) : GoodIn big (c :: (a ++ b)) := fun w h => (List.mem_cons.mp h).elim (fun e => ha w (List.mem_cons.mpr (Or.inl e))) (fun h => (List.mem_append.mp h).elim (fun h => ha w (List.mem_cons.mpr (Or.inr h))) (hb w))
theorem goodIn_sub {big ws : List Cond} (hm : ∀ w ∈ ws, w ∈ big) (h : ws.all goodWord = true) : GoodIn big ws := fun w hw => ⟨hm w hw, good_of_word (List.all_eq_true.mp h w hw)⟩
/-! ===== END ===== -/

/-! ===== BEGIN new T[n][m]: the outer array a place, the inner ones among the pooled ===== -/
/-- f, but v at every address of l -/
def vr_up {α : Type} (f : Nat → α) (l : List Nat) (v : α) : Nat → α := fun a => if a ∈ l then v else f a
theorem vr_up_in {α : Type} {f : Nat → α} {l : List Nat} {v : α} {a : Nat} (h : a ∈ l) : vr_up f l v a = v := if_pos h
theorem vr_up_ne {α : Type} {f : Nat → α} {l : List Nat} {v : α} {a : Nat} (h : a ∉ l) : vr_up f l v a = f a := if_neg h
theorem vr_rows {L l : List Nat} {f : Nat → va_E} {e : va_E} (h : ∀ a, a ∈ l → a ∉ L) : va_pl L f ++ l.map (fun a => (a, e)) = va_pl (L ++ l) (vr_up f l e) := by
  unfold va_pl
  rw [List.map_append]
  congr 1
  · apply List.map_congr_left
    intro a ha
    rw [vr_up_ne (fun q => h a q ha)]
  · apply List.map_congr_left
    intro a ha
    rw [vr_up_in ha]
theorem vr_lay {X rows : va_W} {x : Nat × va_E} {pl : va_W} {D : va_G} {cl : List vw_C} {H : Heap} (hP : va_P D cl (((X ++ pl) ++ [x]) ++ rows) H) : va_P D cl ((X ++ [x]) ++ (pl ++ rows)) H := by
  rw [List.append_assoc (X ++ pl)] at hP
  have h := va_P.swap hP
  rw [← List.append_assoc X] at h
  have h2 := va_P.swap h
  rw [List.append_assoc (X ++ [x])] at h2
  exact h2
theorem vr_layD {X rows : va_W} {x : Nat × va_E} {pl : va_W} {A : Nat → Prop} (hD : va_D A (((X ++ pl) ++ [x]) ++ rows)) : va_D A ((X ++ [x]) ++ (pl ++ rows)) := by
  rw [List.append_assoc (X ++ pl)] at hD
  have h := va_D.swap hD
  rw [← List.append_assoc X] at h
  have h2 := va_D.swap h
  rw [List.append_assoc (X ++ [x])] at h2
  exact h2
theorem vr_outer (c : ClassId) (N h0 : Nat) : ∀ i : Nat, Jvm.Free.Multi.outerC c N h0 i = arrV c N (fun j => va_rf (if j < i then some (h0 + 1 + j) else none))
  | 0 => by
    show ({ cls := c, slots := Array.replicate N .null, vm := .none } : Cell) = _
    rw [arrV_new]
    refine congrArg (arrV c N) (funext fun j => ?_)
    simp [va_rf]
  | i + 1 => by
    show (Jvm.Free.Multi.outerC c N h0 i).setSlot i (.ref (h0 + 1 + i)) = _
    rw [vr_outer c N h0 i, arrV_store]
    refine congrArg (arrV c N) (funext fun j => ?_)
    by_cases e : j = i
    · subst e
      simp [updV, va_rf]
    · by_cases h : j < i
      · simp [updV, e, h, Nat.lt_succ_of_lt h]
      · simp [updV, e, h, show ¬ j < i + 1 by omega]
section VGM
variable {p : Program} {l : Launch} {e : Env} {R : Room} {s : State} {m : MethodId} {args : Array Value} {below : List Frame} {meth : Method} {c : Code} {H : Heap} {locs : List Loc} {cells slots : Nat} {Q : State → Prop}
variable {cc : ByteArray} {pc : Nat} {ls : Array Slot} {rest : List Value} {D : va_G} {cl : List vw_C} {A : Nat → Prop} {a : Nat} {tys : List (ClassId × FieldType)} {ws : va_W} {H0 : Heap}
theorem va_mna {X : va_W} {L : List Nat} {f : Nat → va_E} {cc : ByteArray} (hexec : p.tables.exec = Jvm.exec) (hb : c.code = cc) {own : String} {index : Nat} {ty : FieldType} {cy : ClassId} (hown : s.vm.findClass own = some m.cls) (hclink : (Cond.classLink own index ("[" ++ (FieldType.array ty).toString)).before args s = true) (hover : va_AOA ty s) (harr : (Cond.arrayClass ty).before args s = true) (hcy : s.vm.findClass (FieldType.array ty).toString = some cy)
    (hK : va_K D cl tys s) (hP : va_P D cl (X ++ va_pl L f) H) (hD : va_D A (X ++ va_pl L f)) (hS : va_S A H0 H locs) (hA : ∀ q, H0.size ≤ q → A q) {n k : Int32} {N' K' : Nat} {z : vp_A} (hn : ¬ n < 0) (hk : ¬ k < 0) (hN : n.toNatClampNeg = N') (hM : k.toNatClampNeg = K')
    (hb1 : N' * 4 ≤ 536870912) (hb2 : K' * componentBytes ty ≤ 536870912) (hb3 : K' ≤ 536870912) (hdf : fits ty (defaultValue ty) = true) (hdd : (defaultValue ty).isDefault = true) (hcells : cells + (1 + N') ≤ R.cells) (hslots : slots + (N' + N' * K') ≤ R.slots) (hz : ∀ c : ClassId, Jvm.Free.Multi.innerC c K' (defaultValue ty) = vp_cell c z) (hdg : decode cc pc = .ok (.multianewarray index 2, 4))
    (kk : ∀ (q : Nat) (r : Nat → Nat) (cA : ClassId) (H1 : Heap), (∀ i j : Nat, i < N' → j < N' → r i = r j → i = j) → (∀ i : Nat, i < N' → r i ∉ L) → va_K D cl (tys ++ [(cA, .array ty)]) s →
      va_P D cl ((X ++ [(q, .inl (cA, N', .inr (.inr (.inr (.inr (fun i => if i < N' then some (r i) else none))))))]) ++ va_pl (L ++ (List.range N').map r) (vr_up f ((List.range N').map r) (.inl (cy, z)))) H1 → va_D A ((X ++ [(q, .inl (cA, N', .inr (.inr (.inr (.inr (fun i => if i < N' then some (r i) else none))))))]) ++ va_pl (L ++ (List.range N').map r) (vr_up f ((List.range N').map r) (.inl (cy, z)))) → va_S A H0 H1 locs →
      W p l e R s m args below meth c H1 locs (cells + 1 + N') (slots + N' + N' * K') Q (F0 m (pc + 4) ls (.ref q :: rest))) : W p l e R s m args below meth c H locs cells slots Q (F0 m pc ls (.int k :: .int n :: rest)) := by
  subst hN
  subst hM
  intro T hT Xs
  obtain ⟨vm₁, cA, comp, -, fA, fC, hO, -, X', step⟩ := Xs.multianewarray2F hexec hown hclink (va_AOA.use hover) harr (g := F0 m pc ls (.int k :: .int n :: rest)) rfl (by rw [hb]; exact hdg) rfl hn hk hb1 hb2 hb3 hdf hdd hcells hslots
  have ec : some cy = some comp := hcy.symm.trans fC
  cases ec
  generalize hF : Jvm.Free.Multi.fill (T.setVm vm₁) cA cy n.toNatClampNeg k.toNatClampNeg (defaultValue ty) n.toNatClampNeg = F at X' step
  have hTh : (T.setVm vm₁).heap = H := hT
  obtain ⟨f1, f2, -, -⟩ := Jvm.Free.Multi.fill_facts (T.setVm vm₁) cA cy n.toNatClampNeg k.toNatClampNeg (defaultValue ty) n.toNatClampNeg
  rw [hF, hTh] at f1 f2
  have hold : ∀ x : Nat, x < H.size → F.heap[x]? = H[x]? := fun x hx => by
    have := Jvm.Free.Multi.fill_old (T.setVm vm₁) cA cy n.toNatClampNeg k.toNatClampNeg (defaultValue ty) (a := x) (by rw [hTh]; exact hx) n.toNatClampNeg
    rw [hF, hTh] at this
    exact this
  have hrow : ∀ j : Nat, j < n.toNatClampNeg → F.heap[H.size + 1 + j]? = some (vp_cell cy z) := fun j hj => by
    have := Jvm.Free.Multi.fill_inner (T.setVm vm₁) cA cy n.toNatClampNeg k.toNatClampNeg (defaultValue ty) n.toNatClampNeg j hj
    rw [hF, hTh, hz] at this
    exact this
  have hout : Jvm.Free.Multi.outerC cA n.toNatClampNeg H.size n.toNatClampNeg = vp_cell cA (n.toNatClampNeg, .inr (.inr (.inr (.inr (fun i => if i < n.toNatClampNeg then some (H.size + 1 + i) else none))))) := by
    rw [vp_cell_q]
    exact vr_outer cA n.toNatClampNeg H.size n.toNatClampNeg
  rw [hout] at f2
  have hlt : ∀ a, a ∈ L → a < H.size := fun a ha => by
    obtain ⟨k9, hk9⟩ := va_pl_get (X := X) (f := f) ha
    exact (hP k9 _ hk9).lt
  have hnl : ∀ i : Nat, i < n.toNatClampNeg → H.size + 1 + i ∉ L := fun i _ h => by
    have := hlt _ h
    omega
  have hnm : ∀ a, a ∈ (List.range n.toNatClampNeg).map (fun i => H.size + 1 + i) → a ∉ L := fun a ha h => by
    obtain ⟨i, -, rfl⟩ := List.mem_map.mp ha
    have := hlt _ h
    omega
  have hP0 : va_P D cl (X ++ va_pl L f) F.heap := hP.kept (fun k9 x hx => hold x.1 ((hP k9 x hx).lt))
  have hP1 : va_P D cl ((X ++ va_pl L f) ++ [(H.size, .inl (cA, n.toNatClampNeg, .inr (.inr (.inr (.inr (fun i => if i < n.toNatClampNeg then some (H.size + 1 + i) else none))))))]) F.heap := hP0.app (fun k9 x hx => by
    have h0 : k9 < 1 := (List.getElem?_eq_some_iff.mp hx).1
    rw [show k9 = 0 by omega] at hx
    cases hx
    exact f2)
  have hP2 : va_P D cl (((X ++ va_pl L f) ++ [(H.size, .inl (cA, n.toNatClampNeg, .inr (.inr (.inr (.inr (fun i => if i < n.toNatClampNeg then some (H.size + 1 + i) else none))))))]) ++ ((List.range n.toNatClampNeg).map (fun i => H.size + 1 + i)).map (fun a => (a, .inl (cy, z)))) F.heap := hP1.app (fun k9 x hx => by
    obtain ⟨a, ha, rfl⟩ := List.mem_map.mp (List.mem_of_getElem? hx)
    obtain ⟨i, hi, rfl⟩ := List.mem_map.mp ha
    exact hrow i (List.mem_range.mp hi))
  have hD2 : va_D A (((X ++ va_pl L f) ++ [(H.size, .inl (cA, n.toNatClampNeg, .inr (.inr (.inr (.inr (fun i => if i < n.toNatClampNeg then some (H.size + 1 + i) else none))))))]) ++ ((List.range n.toNatClampNeg).map (fun i => H.size + 1 + i)).map (fun a => (a, .inl (cy, z)))) := by
    have hD1 := hD.push (e := .inl (cA, n.toNatClampNeg, .inr (.inr (.inr (.inr (fun i => if i < n.toNatClampNeg then some (H.size + 1 + i) else none)))))) hP rfl (hA _ hS.1)
    generalize hW1 : (X ++ va_pl L f) ++ [(H.size, .inl (cA, n.toNatClampNeg, .inr (.inr (.inr (.inr (fun i => if i < n.toNatClampNeg then some (H.size + 1 + i) else none))))))] = W1 at hD1 hP1 ⊢
    have hle : ∀ (k9 : Nat) (x : Nat × va_E), W1[k9]? = some x → x.1 ≤ H.size := fun k9 x hx => by
      rw [← hW1] at hx
      by_cases hl : k9 < (X ++ va_pl L f).length
      · rw [List.getElem?_append_left hl] at hx
        exact Nat.le_of_lt ((hP k9 x hx).lt)
      · rw [List.getElem?_append_right (by omega)] at hx
        have h0 : k9 - (X ++ va_pl L f).length < 1 := (List.getElem?_eq_some_iff.mp hx).1
        rw [show k9 - (X ++ va_pl L f).length = 0 by omega] at hx
        cases hx
        exact Nat.le_refl _
    have hr : ∀ (k9 : Nat) (x : Nat × va_E), (((List.range n.toNatClampNeg).map (fun i => H.size + 1 + i)).map (fun a => ((a, .inl (cy, z)) : Nat × va_E)))[k9]? = some x → x.1 = H.size + 1 + k9 := fun k9 x hx => by
      rw [List.getElem?_map, List.getElem?_map] at hx
      by_cases h9 : k9 < n.toNatClampNeg
      · rw [List.getElem?_range h9] at hx
        cases hx
        rfl
      · have hn0 : (List.range n.toNatClampNeg)[k9]? = none := List.getElem?_eq_none (by rw [List.length_range]; omega)
        rw [hn0] at hx
        cases hx
    refine ⟨fun i j x y hi hj hxy => ?_, fun k9 x hx => ?_⟩
    · by_cases h1 : i < W1.length <;> by_cases h2 : j < W1.length
      · rw [List.getElem?_append_left h1] at hi
        rw [List.getElem?_append_left h2] at hj
        exact hD1.1 i j x y hi hj hxy
      · rw [List.getElem?_append_left h1] at hi
        rw [List.getElem?_append_right (by omega)] at hj
        have := hle _ _ hi
        have := hr _ _ hj
        omega
      · rw [List.getElem?_append_right (by omega)] at hi
        rw [List.getElem?_append_left h2] at hj
        have := hle _ _ hj
        have := hr _ _ hi
        omega
      · rw [List.getElem?_append_right (by omega)] at hi hj
        have := hr _ _ hi
        have := hr _ _ hj
        omega
    · by_cases h1 : k9 < W1.length
      · rw [List.getElem?_append_left h1] at hx
        exact hD1.2 k9 x hx
      · rw [List.getElem?_append_right (by omega)] at hx
        have := hr _ _ hx
        exact hA _ (by have := hS.1; omega)
  have hAr : ArrOfT s cA (.array ty) := fun N9 z9 => by
    obtain ⟨-, k9, hk9, cm9, hkk9⟩ := (hO 0 0 0).1
    exact ⟨(fun q hq => by cases hq), k9, hk9, cm9, hkk9⟩
  have hK2 : va_K D cl (tys ++ [(cA, .array ty)]) s := ⟨hK.1, fun k9 x hx => by
    by_cases hl : k9 < tys.length
    · rw [List.getElem?_append_left hl] at hx
      exact hK.2 k9 x hx
    · rw [List.getElem?_append_right (by omega)] at hx
      have h0 : k9 - tys.length < 1 := (List.getElem?_eq_some_iff.mp hx).1
      rw [show k9 - tys.length = 0 by omega] at hx
      cases hx
      exact ⟨hAr, fA⟩⟩
  obtain ⟨t, a1, b1⟩ := kk H.size (fun i => H.size + 1 + i) cA F.heap (fun i j _ _ h => by have h9 : H.size + 1 + i = H.size + 1 + j := h; omega) hnl hK2 (by rw [← vr_rows hnm]; exact vr_lay hP2) (by rw [← vr_rows hnm]; exact vr_layD hD2) ⟨by rw [f1]; have := hS.1; omega, fun x h1 h2 => (hold x (Nat.lt_of_lt_of_le h1 hS.1)).trans (hS.2.1 x h1 h2), hS.2.2⟩ F rfl X'
  refine ⟨t, step t ?_, b1⟩
  have e : T.heap.size = H.size := by rw [hT]
  rw [e]
  exact a1
end VGM
/-! ===== END ===== -/

/-! ===== BEGIN exceptions that leave a method, and their catching by the caller (launches without stack traces) ===== -/
section VXA
/-! The laws vx_back, vx_callV, vx_callS, vx_callSW, vx_throw0, vx_throwS follow proofs of the library, with one case more: JvmDerived/Free/Laws.lean (Back.of_free), Shelf42/LK1.lean (callV, callS), Shelf/KitTraced.lean (throwNew0V, throwNewS). -/
/-- where a method has thrown q: the class by its name, the cell, what was written, the world -/
def vx_T (XC : String → State → State → Prop) (st : State) (q : Addr) (t : State) (mc ms : Nat) (free : Addr → Prop) : Prop :=
  ∃ (E : String) (ce : Cell) (L : List Loc), XC E st t ∧ t.heap[q]? = some ce ∧ ce.vm = .none ∧ st.vm.findClass E = some ce.cls ∧ st.WarmedH t.vm ∧ st.sameButNew ({ t with vm := st.vm } : State) L mc ms ∧ ∀ z ∈ L, free z.base
def vx_Q (Qc : Array Value → State → Outcome → State → Prop) (XC : String → State → State → Prop) (mc ms : Nat) (free : Addr → Prop) : Array Value → State → Outcome → State → Prop := fun a st o t =>
  (Qc a st o t ∧ ∃ L, FrameEnd st o t L mc ms ∧ ∀ q ∈ L, free q.base) ∨ ∃ q, o = .threw q ∧ vx_T XC st q t mc ms free
/-- a callee that returns or throws -/
def vx_Met (l : Launch) (y : MethodName) (ws : List Cond) (rm : Room) (Pc : Array Value → State → Prop) (Qc : Array Value → State → Outcome → State → Prop) (XC : String → State → State → Prop) (mc ms : Nat) (free : Addr → Prop) : Prop :=
  MetFree l y (headSpec ws rm) Pc (fun _ _ _ _ _ => True) (vx_Q Qc XC mc ms free)
def vx_Post (XC : String → State → State → Prop) (mc ms : Nat) (free : Addr → Prop) : Pt → Array Value → Addr → Pt → Prop := fun A a q B =>
  ∃ (g : JFrame) (mk : MethodId) (t : State) (L : List Loc) (E : String) (ce : Cell), B.U.heap = t.heap ∧ B.U.vm = t.vm ∧ XC E (A.U.calling g mk a) t ∧ t.heap[q]? = some ce ∧ ce.vm = .none ∧ A.U.vm.findClass E = some ce.cls ∧ B.locs = A.locs ++ L ∧ (∀ z ∈ L, free z.base) ∧ B.cells = A.cells + mc ∧ B.slots = A.slots + ms
def vx_Back (l : Launch) (R : Room) (p : Program) (e : Env) (below : List Frame) (s : State) (sargs : Array Value) (y : MethodName) (len W9 : Nat)
    (Pre : Pt → Array Value → Prop) (Post : Pt → Array Value → Option Value → Pt → Prop) (PostX : Pt → Array Value → Addr → Pt → Prop) : Prop :=
  ∀ (m : MethodId) (meth : Method) (c : Code) (A : Pt) (g : JFrame) (ig : Instr) (mk : MethodId) (a : Array Value),
    Stand p l e R s m sargs below meth c A.U A.locs A.cells A.slots → g.method = m → g.locals.size = c.maxLocals → decode c.code g.pc = .ok (ig, len) →
    2 * g.monitorRoom + (g.stack.map fun v => v.category).sum ≤ W9 → A.U.methodNamed? y = some mk → Pre A a →
    (∃ (v : Option Value) (B : Pt), Stand p l e R s m sargs below meth c B.U B.locs B.cells B.slots ∧ Post A a v B ∧
      Steps p.tables e below (doInvoke e (A.U.setTop g) [] mk a).1 (B.U.setTop { g with pc := g.pc + len, stack := v.toList ++ g.stack })) ∨
    (∃ (q : Addr) (B : Pt), Stand p l e R s m sargs below meth c B.U B.locs B.cells B.slots ∧ PostX A a q B ∧
      Steps p.tables e below (doInvoke e (A.U.setTop g) [] mk a).1 ((B.U.setTop g).pushFrame (.throwing q)))
section Payer
variable {l : Launch} {R : Room} {p : Program} {e : Env} {below : List Frame} {s : State} {sargs : Array Value} {y : MethodName} {len W9 : Nat}
theorem vx_back {ws : List Cond} {rm : Room} {Pc : Array Value → State → Prop} {Qc : Array Value → State → Outcome → State → Prop} {XC : String → State → State → Prop} {mc ms : Nat} {free : Addr → Prop} {bytes : ByteArray} {maxL : Nat} {ret : Option FieldType}
    (hM : vx_Met l y ws rm Pc Qc XC mc ms free) (hblind : FrameBlind Pc) (hrc : rm.cells = mc) (hrs : rm.slots = ms)
    (hframes : rm.frames + 1 ≤ R.frames) (hlocals : W9 + (maxL + 11) + rm.locals ≤ R.locals)
    (hws : ∀ w ∈ ws, ∀ a' U, s.WarmedH U.vm → w.before a' U = true) (hcode : Cond.code y bytes maxL ret ∈ ws) (hinit : ∀ a' U, s.WarmedH U.vm → (Cond.initialized y.cls).before a' U = true) :
    vx_Back l R p e below s sargs y len W9 (PreOf R mc ms Pc) (PostOf Qc mc ms free) (vx_Post XC mc ms free) := by
  intro m meth c A g ig mk a X hg hsize hdg hW hn hp
  have h1 : (headSpec ws rm).pre.before a A.U = true := atoms_intro fun w hw => hws w hw _ _ X.warmed
  have h2 : (Cond.code y bytes maxL ret).before a A.U = true := hws _ hcode _ _ X.warmed
  have h3 : (Cond.initialized y.cls).before a A.U = true := hinit _ _ X.warmed
  have h4 : A.cells + (headSpec ws rm).room.cells ≤ R.cells := by rw [show (headSpec ws rm).room.cells = mc from hrc]; exact hp.1
  have h5 : A.slots + (headSpec ws rm).room.slots ≤ R.slots := by rw [show (headSpec ws rm).room.slots = ms from hrs]; exact hp.2.1
  have hPc : Pc a (A.U.calling g mk a) := hblind _ _ _ _ hp.2.2
  obtain ⟨U, Ls, c0, s0⟩ := A
  dsimp only [Pt.U, Pt.locs, Pt.cells, Pt.slots] at h1 h2 h3 h4 h5 X hn hPc ⊢
  obtain ⟨methY, cY, hmY, hcY, -, hlY, -, -, -, -⟩ := Cond.code_spec hn h2
  obtain ⟨kY, hkY, -⟩ := className_of_methodNamed hn
  have hinitY : kY.init = .initialized := Cond.initialized_spec (findClass_of_methodNamed hn) hkY h3
  have h : At U g.method c below := by rw [hg]; exact X.here
  have hlocals9 : W9 + (maxL + 11) + (headSpec ws rm).room.locals ≤ R.locals := hlocals
  have happ : (headSpec ws rm).appliesLoose y e.platform (U.calling g mk a) = true :=
    Spec.appliesLoose_calling (g := g) h hdg hn hkY hinitY
      (X.room_calling (g := g) (R' := (headSpec ws rm).room) hsize hmY hcY hframes (by rw [hlY]; omega) h4 h5) h1
  obtain ⟨mid, hmid⟩ := h.above
  have hfr : (U.setTop g).frames = (.java g :: mid) ++ below := by rw [State.frames_setTop' g h.top, hmid]; rfl
  obtain ⟨o, s₂, hsteps, -, hend, hq⟩ := Steps.callFree hM p X.admits X.cas X.clock (acts := []) hfr happ hPc trivial
  have hq' : vx_Q Qc XC mc ms free a (U.calling g mk a) o s₂ := hq
  rw [State.frames_setTop' g h.top] at hend
  obtain ⟨g₀, hg0⟩ := Option.isSome_iff_exists.mp h.top
  obtain ⟨r, hr⟩ := State.topJava?_eq_some.mp hg0
  have hr' : (({ U with heap := s₂.heap, slotsUsed := s₂.slotsUsed } : State).setVm s₂.vm).frames = .java g₀ :: r := hr
  rcases hq' with ⟨hqc, L, hfe, hL⟩ | ⟨q, rfl, E, ce, L, hx, hce, hcv, hcl, hW₂, hsm, hL⟩
  · obtain ⟨⟨v, rfl⟩, hW₂, e2, q2, q3, q4, q5, q6⟩ := id hfe
    have e3 : s₂ = ({ (U.calling g mk a).setFrames s₂.frames with heap := s₂.heap, slotsUsed := s₂.slotsUsed } : State).setVm s₂.vm := by
      have : s₂ = ({ s₂ with vm := (U.calling g mk a).vm } : State).setVm s₂.vm := rfl
      rw [e2] at this
      exact this
    obtain ⟨c₂, i₂, len₂, hc₂, hd₂, hf₂⟩ := hend
    have hW' : U.WarmedH s₂.vm := hW₂
    have hcc : c₂ = c := by
      have h1 : s₂.code? g.method = U.code? g.method := by
        rw [State.code?_eq, State.code?_eq, hW'.alike.method?]
      exact Option.some.inj (hc₂.symm.trans (h1.trans h.code))
    subst hcc
    have hlen : len₂ = len := by rw [hdg] at hd₂; cases hd₂; rfl
    subst hlen
    have hs₂ : s₂ = (({ U with heap := s₂.heap, slotsUsed := s₂.slotsUsed } : State).setVm s₂.vm).setTop { g with pc := g.pc + len₂, stack := v.toList ++ g.stack } := by
      refine e3.trans ?_
      rw [hf₂, State.calling_eq h.top, State.setFrames_setFrames, State.setTop_of_frames _ hr', hr]
      rfl
    have hsame : U.sameButNew ({ U with heap := s₂.heap, slotsUsed := s₂.slotsUsed } : State) L mc ms := by
      refine ⟨?_, q2, q3, q4, q5, q6⟩
      obtain ⟨t, ht, -⟩ := State.frames_cons hr
      show ({ U with heap := s₂.heap, slotsUsed := s₂.slotsUsed } : State) = { U.setFrames U.frames with heap := s₂.heap, slotsUsed := s₂.slotsUsed }
      rw [State.setFrames_self ht]
    subst hg
    refine Or.inl ⟨v, ⟨(({ U with heap := s₂.heap, slotsUsed := s₂.slotsUsed } : State).setVm s₂.vm), Ls ++ L, c0 + mc, s0 + ms⟩,
      ⟨X.admits, X.cas, X.clock, X.frames, X.room, X.hears, X.method, X.code, (X.here.setHeapUsed s₂.heap s₂.slotsUsed).setVm hW'.alike, X.tail, State.WarmedH.trans X.warmed hW', X.limits, X.bytes, X.same.trans (hsame.setVm s.vm)⟩,
      ⟨g, mk, s₂, L, rfl, rfl, hqc, rfl, hL, rfl, rfl⟩, ?_⟩
    show Steps p.tables e below _ ((({ U with heap := s₂.heap, slotsUsed := s₂.slotsUsed } : State).setVm s₂.vm).setTop { g with pc := g.pc + len₂, stack := v.toList ++ g.stack })
    rw [← hs₂]
    exact hsteps
  · obtain ⟨e2, q2, q3, q4, q5, q6⟩ := id hsm
    have e3 : s₂ = ({ (U.calling g mk a).setFrames s₂.frames with heap := s₂.heap, slotsUsed := s₂.slotsUsed } : State).setVm s₂.vm := by
      have : s₂ = ({ s₂ with vm := (U.calling g mk a).vm } : State).setVm s₂.vm := rfl
      rw [e2] at this
      exact this
    have hf₂ : s₂.frames = .throwing q :: .java g :: U.frames.tail := hend
    have hW' : U.WarmedH s₂.vm := hW₂
    have hs₂ : s₂ = ((({ U with heap := s₂.heap, slotsUsed := s₂.slotsUsed } : State).setVm s₂.vm).setTop g).pushFrame (.throwing q) := by
      refine e3.trans ?_
      rw [hf₂, State.calling_eq h.top, State.setFrames_setFrames, State.pushFrame, State.frames_setTop _ hr', State.setTop_of_frames _ hr', State.setFrames_setFrames, hr]
      rfl
    have hsame : U.sameButNew ({ U with heap := s₂.heap, slotsUsed := s₂.slotsUsed } : State) L mc ms := by
      refine ⟨?_, q2, q3, q4, q5, q6⟩
      obtain ⟨t, ht, -⟩ := State.frames_cons hr
      show ({ U with heap := s₂.heap, slotsUsed := s₂.slotsUsed } : State) = { U.setFrames U.frames with heap := s₂.heap, slotsUsed := s₂.slotsUsed }
      rw [State.setFrames_self ht]
    subst hg
    refine Or.inr ⟨q, ⟨(({ U with heap := s₂.heap, slotsUsed := s₂.slotsUsed } : State).setVm s₂.vm), Ls ++ L, c0 + mc, s0 + ms⟩,
      ⟨X.admits, X.cas, X.clock, X.frames, X.room, X.hears, X.method, X.code, (X.here.setHeapUsed s₂.heap s₂.slotsUsed).setVm hW'.alike, X.tail, State.WarmedH.trans X.warmed hW', X.limits, X.bytes, X.same.trans (hsame.setVm s.vm)⟩,
      ⟨g, mk, s₂, L, E, ce, rfl, rfl, hx, hce, hcv, hcl, rfl, hL, rfl, rfl⟩, ?_⟩
    show Steps p.tables e below _ (((({ U with heap := s₂.heap, slotsUsed := s₂.slotsUsed } : State).setVm s₂.vm).setTop g).pushFrame (.throwing q))
    rw [← hs₂]
    exact hsteps
end Payer
section Calls
variable {p : Program} {l : Launch} {e : Env} {R : Room} {s : State} {m : MethodId} {args : Array Value} {below : List Frame} {meth : Method} {c : Code} {T : State} {locs : List Loc} {cells slots : Nat}
theorem vx_callV (X : Stand p l e R s m args below meth c T locs cells slots) (hexec : p.tables.exec = Jvm.exec) {own C : String} {index : Nat} {y : MethodName} {bytes : ByteArray} {maxL : Nat} {ret : Option FieldType}
    (hown : s.vm.findClass own = some m.cls) (hlink : (Cond.methodLink own index y).before args s = true) (hinst : (Cond.instanceMethod y).before args s = true) (hsel : (Cond.selects C y y).before args s = true)
    (hcode : (Cond.code y bytes maxL ret).before args s = true) (hy : y.cls ≠ "java/lang/invoke/MethodHandle" ∧ y.cls ≠ "java/lang/invoke/VarHandle")
    {W9 : Nat} {Pre : Pt → Array Value → Prop} {Post : Pt → Array Value → Option Value → Pt → Prop} {PostX : Pt → Array Value → Addr → Pt → Prop} (hK : vx_Back l R p e below s args y 3 W9 Pre Post PostX)
    {b : Addr} {cellB : Cell} (hcell : T.heap[b]? = some cellB) (hobj : cellB.vm.isStatics = false) (hcls : s.vm.findClass C = some cellB.cls)
    {g : JFrame} (hg : g.method = m) (hsize : g.locals.size = c.maxLocals) {argsL rest : List Value} (hlen : ∀ sig, parseMethodDescriptor y.desc = some sig → argsL.length = sig.parameters.length)
    (hstack : g.stack = argsL.reverse ++ .ref b :: rest) (hW : 2 * g.monitorRoom + (rest.map fun v => v.category).sum ≤ W9) (hdg : decode c.code g.pc = .ok (.invokevirtual index, 3))
    (hpre : ∀ vm₁, s.WarmedH vm₁ → Pre ⟨T.setVm vm₁, locs, cells, slots⟩ (Value.ref b :: argsL).toArray) :
    (∃ (v : Option Value) (vm₁ : Vm) (B : Pt), s.WarmedH vm₁ ∧ Stand p l e R s m args below meth c B.U B.locs B.cells B.slots ∧ Post ⟨T.setVm vm₁, locs, cells, slots⟩ (Value.ref b :: argsL).toArray v B ∧
      ∀ target, Steps p.tables e below (B.U.setTop { g with pc := g.pc + 3, stack := v.toList ++ rest }) target → Steps p.tables e below (T.setTop g) target) ∨
    (∃ (q : Addr) (vm₁ : Vm) (B : Pt), s.WarmedH vm₁ ∧ Stand p l e R s m args below meth c B.U B.locs B.cells B.slots ∧ PostX ⟨T.setVm vm₁, locs, cells, slots⟩ (Value.ref b :: argsL).toArray q B ∧
      Steps p.tables e below (T.setTop g) ((B.U.setTop { g with stack := rest }).pushFrame (.throwing q))) := by
  obtain ⟨mk, methM, hnamed, hmethM, hstM, habM⟩ := Cond.instanceMethod_spec hinst
  obtain ⟨methM', cM, hmethM', -, -, -, -, -, -, hsigM⟩ := Cond.code_spec hnamed hcode
  cases hmethM.symm.trans hmethM'
  obtain ⟨c2, r2, m2, q1, q2, q3, q4, kP, hkP, hkPi⟩ := Cond.selects_spec hsel
  cases hcls.symm.trans q1
  cases (State.methodFound?_of_named hnamed hy).symm.trans q2
  cases hnamed.symm.trans q3
  have hselP : selectMethod e.platform s.vm cellB.cls mk = .method mk := by rw [Launch.admits_selectMethod X.admits]; exact q4
  obtain ⟨vm₁, X₁, hstep₁⟩ := X.invokevirtual hexec hown hlink hnamed hmethM hstM hkP hkPi hy (a := b) (cell := cellB) hcell
    (fun z h => by rw [h] at hobj; cases hobj) hselP hmethM habM hkP hkPi (g := g) hg (argsL := argsL) (rest := rest) (hlen _ hsigM) hstack hdg
  rcases hK m meth c ⟨T.setVm vm₁, locs, cells, slots⟩ { g with stack := rest } (.invokevirtual index) mk (Value.ref b :: argsL).toArray X₁ hg hsize hdg hW (X₁.named hnamed) (hpre vm₁ X₁.warmed) with ⟨v, B, X', hpost, hsteps⟩ | ⟨q, B, X', hpost, hsteps⟩
  · exact Or.inl ⟨v, vm₁, B, X₁.warmed, X', hpost, fun target h => hstep₁ _ fun acts => by rw [doInvoke_state]; exact hsteps.trans h⟩
  · exact Or.inr ⟨q, vm₁, B, X₁.warmed, X', hpost, hstep₁ _ fun acts => by rw [doInvoke_state]; exact hsteps⟩
theorem vx_callS (X : Stand p l e R s m args below meth c T locs cells slots) (hexec : p.tables.exec = Jvm.exec) {own : String} {index : Nat} {y : MethodName} {bytes : ByteArray} {maxL : Nat} {ret : Option FieldType}
    (hown : s.vm.findClass own = some m.cls) (hlink : (Cond.methodLink own index y).before args s = true) (hstat : (Cond.static y).before args s = true) (hinit : (Cond.initialized y.cls).before args s = true)
    (hcode : (Cond.code y bytes maxL ret).before args s = true) (hy : y.cls ≠ "java/lang/invoke/MethodHandle" ∧ y.cls ≠ "java/lang/invoke/VarHandle")
    {W9 : Nat} {Pre : Pt → Array Value → Prop} {Post : Pt → Array Value → Option Value → Pt → Prop} {PostX : Pt → Array Value → Addr → Pt → Prop} (hK : vx_Back l R p e below s args y 3 W9 Pre Post PostX)
    {g : JFrame} (hg : g.method = m) (hsize : g.locals.size = c.maxLocals) {argsL rest : List Value} (hlen : ∀ sig, parseMethodDescriptor y.desc = some sig → argsL.length = sig.parameters.length)
    (hstack : g.stack = argsL.reverse ++ rest) (hW : 2 * g.monitorRoom + (rest.map fun v => v.category).sum ≤ W9) (hdg : decode c.code g.pc = .ok (.invokestatic index, 3))
    (hpre : ∀ vm₁, s.WarmedH vm₁ → Pre ⟨T.setVm vm₁, locs, cells, slots⟩ argsL.toArray) :
    (∃ (v : Option Value) (vm₁ : Vm) (B : Pt), s.WarmedH vm₁ ∧ Stand p l e R s m args below meth c B.U B.locs B.cells B.slots ∧ Post ⟨T.setVm vm₁, locs, cells, slots⟩ argsL.toArray v B ∧
      ∀ target, Steps p.tables e below (B.U.setTop { g with pc := g.pc + 3, stack := v.toList ++ rest }) target → Steps p.tables e below (T.setTop g) target) ∨
    (∃ (q : Addr) (vm₁ : Vm) (B : Pt), s.WarmedH vm₁ ∧ Stand p l e R s m args below meth c B.U B.locs B.cells B.slots ∧ PostX ⟨T.setVm vm₁, locs, cells, slots⟩ argsL.toArray q B ∧
      Steps p.tables e below (T.setTop g) ((B.U.setTop { g with stack := rest }).pushFrame (.throwing q))) := by
  obtain ⟨mk, hnamed⟩ := Cond.code_named hcode
  obtain ⟨methM, cM, hmethM, -, -, -, -, -, -, hsigM⟩ := Cond.code_spec hnamed hcode
  have hstatic : methM.isStatic = true := Cond.static_spec hnamed hmethM hstat
  obtain ⟨kP, hkP, -⟩ := className_of_methodNamed hnamed
  have hinitP : kP.init = .initialized := Cond.initialized_spec (findClass_of_methodNamed hnamed) hkP hinit
  obtain ⟨vm₁, X₁, hstep₁⟩ := X.invokestatic hexec hown hlink hnamed hmethM hstatic hkP hinitP hy (g := g) hg (argsL := argsL) (rest := rest) (hlen _ hsigM) hstack hdg
  rcases hK m meth c ⟨T.setVm vm₁, locs, cells, slots⟩ { g with stack := rest } (.invokestatic index) mk argsL.toArray X₁ hg hsize hdg hW (X₁.named hnamed) (hpre vm₁ X₁.warmed) with ⟨v, B, X', hpost, hsteps⟩ | ⟨q, B, X', hpost, hsteps⟩
  · exact Or.inl ⟨v, vm₁, B, X₁.warmed, X', hpost, fun target h => hstep₁ _ fun acts => by rw [doInvoke_state]; exact hsteps.trans h⟩
  · exact Or.inr ⟨q, vm₁, B, X₁.warmed, X', hpost, hstep₁ _ fun acts => by rw [doInvoke_state]; exact hsteps⟩
end Calls
theorem vx_cls {s : State} {T : State} {vm₁ : Vm} {E : String} {k : ClassId} (hW : s.WarmedH vm₁) (h : (T.setVm vm₁).vm.findClass E = some k) : s.vm.findClass E = some k := by
  have h1 : vm₁.findClass E = some k := h
  rw [hW.alike.findClass] at h1
  exact h1
/-- the method's frame g, with q thrown over it -/
def vx_W (p : Program) (l : Launch) (e : Env) (R : Room) (s : State) (m : MethodId) (args : Array Value) (below : List Frame) (meth : Method) (c : Code) (H : Heap) (locs : List Loc) (cells slots : Nat) (Q : State → Prop) (g : JFrame) (q : Addr) : Prop :=
  ∀ T : State, T.heap = H → Stand p l e R s m args below meth c T locs cells slots → ∃ t, Steps p.tables e below ((T.setTop g).pushFrame (.throwing q)) t ∧ Q t
def vx_Run (p : Program) (l : Launch) (e : Env) (R : Room) (s : State) (m : MethodId) (args : Array Value) (below : List Frame) (meth : Method) (c : Code) (H : Heap) (locs : List Loc) (cells slots mc ms : Nat) (g : JFrame) (rest : List Value) (Qa : State → Outcome → State → Prop) (XC : String → State → State → Prop) (free : Addr → Prop) : Prop :=
  ∀ T : State, T.heap = H → Stand p l e R s m args below meth c T locs cells slots →
    (∃ (v : Option Value) (st₀ t T' : State) (L : List Loc), st₀.heap = H ∧ Stand p l e R s m args below meth c T' (locs ++ L) (cells + mc) (slots + ms) ∧ (∀ q ∈ L, free q.base) ∧ T'.heap = t.heap ∧ T'.vm = t.vm ∧ Qa st₀ (.returned v) t ∧
      Goes p e below T g T' { g with pc := g.pc + 3, stack := v.toList ++ rest }) ∨
    (∃ (q : Addr) (st₀ t T' : State) (L : List Loc) (E : String) (ce : Cell), st₀.heap = H ∧ Stand p l e R s m args below meth c T' (locs ++ L) (cells + mc) (slots + ms) ∧ (∀ z ∈ L, free z.base) ∧ T'.heap = t.heap ∧ T'.vm = t.vm ∧ XC E st₀ t ∧ t.heap[q]? = some ce ∧ ce.vm = .none ∧ s.vm.findClass E = some ce.cls ∧
      Steps p.tables e below (T.setTop g) ((T'.setTop { g with stack := rest }).pushFrame (.throwing q)))
def vx_X {S : Type} (px : S → Prop) (B : String → S → State → Prop) (A : Nat → Prop) : String → State → State → Prop := fun E st t => ∃ u : S, px u ∧ B E u t ∧ va_F A st t
section Runs
variable {p : Program} {l : Launch} {e : Env} {R : Room} {s : State} {m : MethodId} {args : Array Value} {below : List Frame} {meth : Method} {c : Code} {H : Heap} {locs : List Loc} {cells slots : Nat}
variable {y : MethodName} {bytes cc : ByteArray} {maxL nL mc ms n index : Nat} {ret : Option FieldType} {ws : List Cond} {rm : Room} {Pc : Array Value → State → Prop} {Qc : Array Value → State → Outcome → State → Prop} {XC : String → State → State → Prop} {free : Addr → Prop} {Ts : List Cond} {own C : String} {b : Addr} {As rest : List Value} {g : JFrame}
theorem vx_callBack (cb : CallB R s args own index y bytes maxL ret ws rm mc ms n) (hM : vx_Met l y ws rm Pc Qc XC mc ms free) (hbl : FrameBlind Pc) : vx_Back l R p e below s args y 3 8 (PreOf R mc ms Pc) (PostOf Qc mc ms free) (vx_Post XC mc ms free) := by
  obtain ⟨hrc, hrs, hfr, hlo, hws, hcw, -, hini, -⟩ := cb
  exact vx_back (bytes := bytes) (maxL := maxL) (ret := ret) hM hbl hrc hrs hfr hlo hws hcw (fun a' U hW => word_at hW (Or.inl (by first | rfl | simp [Cond.onTables, Cond.keeps, Cond.steady])) hini)
theorem vx_runV (S : CallFix p m c cc nL s args Ts own) (hM : vx_Met l y ws rm Pc Qc XC mc ms free) (cw : CallW R s args own C index y bytes maxL ret ws rm mc ms n) (hp : PreV s H C b Pc As)
    (hg : g.method = m) (hn : As.length = n) (hsize : g.locals.size = nL) (hstack : g.stack = As.reverse ++ .ref b :: rest) (hW : 2 * g.monitorRoom + (rest.map fun v => v.category).sum ≤ 8) (hdg : decode cc g.pc = .ok (.invokevirtual index, 3)) (hf : cells + mc ≤ R.cells ∧ slots + ms ≤ R.slots) :
    vx_Run p l e R s m args below meth c H locs cells slots mc ms g rest (Qc (Value.ref b :: As).toArray) XC free := by
  have hK : vx_Back l R p e below s args y 3 8 (PreOf R mc ms Pc) (PostOf Qc mc ms free) (vx_Post XC mc ms free) := vx_callBack cw.1 hM hp.1
  obtain ⟨⟨-, -, -, -, -, -, hcode, -, hy, hlen, hl⟩, hin, hse⟩ := cw
  obtain ⟨hx, hb, hml, ho, -⟩ := S
  obtain ⟨-, ⟨cellB, hcB, hoB, hclB⟩, hPc⟩ := hp
  intro T hT X
  rcases vx_callV X hx (C := C) (bytes := bytes) (maxL := maxL) (ret := ret) ho hl hin hse hcode hy hK (by rw [hT]; exact hcB) hoB hclB hg (hsize.trans hml.symm) (argsL := As) (rest := rest) (fun sig h => hn.trans (hlen sig h)) hstack hW (by rw [hb]; exact hdg)
    (fun vm₁ hW₁ => ⟨hf.1, hf.2, hPc (T.setVm vm₁) hT hW₁⟩) with ⟨v, vm₁, ⟨U', l2, c2, s2⟩, hW₁, X', ⟨g', mk, t, L, e1, e2, hq, h1, hL, h2, h3⟩, st⟩ | ⟨q, vm₁, ⟨U', l2, c2, s2⟩, hW₁, X', ⟨g', mk, t, L, E, ce, e1, e2, hq, hce, hcv, hcl, h1, hL, h2, h3⟩, st⟩
  · dsimp only [Pt.U, Pt.locs, Pt.cells, Pt.slots] at X' e1 e2 h1 h2 h3 st
    subst h1; subst h2; subst h3
    exact Or.inl ⟨v, (T.setVm vm₁).calling g' mk (Value.ref b :: As).toArray, t, U', L, hT, X', hL, e1, e2, hq, st⟩
  · dsimp only [Pt.U, Pt.locs, Pt.cells, Pt.slots] at X' e1 e2 h1 h2 h3 st hcl
    subst h1; subst h2; subst h3
    exact Or.inr ⟨q, (T.setVm vm₁).calling g' mk (Value.ref b :: As).toArray, t, U', L, E, ce, hT, X', hL, e1, e2, hq, hce, hcv, vx_cls hW₁ hcl, st⟩
theorem vx_runS (S : CallFix p m c cc nL s args Ts own) (hM : vx_Met l y ws rm Pc Qc XC mc ms free) (cw : CallB R s args own index y bytes maxL ret ws rm mc ms n ∧ (Cond.static y).before args s = true) (hp : PreS s H Pc As)
    (hg : g.method = m) (hn : As.length = n) (hsize : g.locals.size = nL) (hstack : g.stack = As.reverse ++ rest) (hW : 2 * g.monitorRoom + (rest.map fun v => v.category).sum ≤ 8) (hdg : decode cc g.pc = .ok (.invokestatic index, 3)) (hf : cells + mc ≤ R.cells ∧ slots + ms ≤ R.slots) :
    vx_Run p l e R s m args below meth c H locs cells slots mc ms g rest (Qc As.toArray) XC free := by
  have hK : vx_Back l R p e below s args y 3 8 (PreOf R mc ms Pc) (PostOf Qc mc ms free) (vx_Post XC mc ms free) := vx_callBack cw.1 hM hp.1
  obtain ⟨⟨-, -, -, -, -, -, hcode, hini, hy, hlen, hl⟩, hstt⟩ := cw
  obtain ⟨hx, hb, hml, ho, -⟩ := S
  intro T hT X
  rcases vx_callS X hx (bytes := bytes) (maxL := maxL) (ret := ret) ho hl hstt hini hcode hy hK hg (hsize.trans hml.symm) (argsL := As) (rest := rest) (fun sig h => hn.trans (hlen sig h)) hstack hW (by rw [hb]; exact hdg)
    (fun vm₁ hW₁ => ⟨hf.1, hf.2, hp.2 (T.setVm vm₁) hT hW₁⟩) with ⟨v, vm₁, ⟨U', l2, c2, s2⟩, hW₁, X', ⟨g', mk, t, L, e1, e2, hq, h1, hL, h2, h3⟩, st⟩ | ⟨q, vm₁, ⟨U', l2, c2, s2⟩, hW₁, X', ⟨g', mk, t, L, E, ce, e1, e2, hq, hce, hcv, hcl, h1, hL, h2, h3⟩, st⟩
  · dsimp only [Pt.U, Pt.locs, Pt.cells, Pt.slots] at X' e1 e2 h1 h2 h3 st
    subst h1; subst h2; subst h3
    exact Or.inl ⟨v, (T.setVm vm₁).calling g' mk As.toArray, t, U', L, hT, X', hL, e1, e2, hq, st⟩
  · dsimp only [Pt.U, Pt.locs, Pt.cells, Pt.slots] at X' e1 e2 h1 h2 h3 st hcl
    subst h1; subst h2; subst h3
    exact Or.inr ⟨q, (T.setVm vm₁).calling g' mk As.toArray, t, U', L, E, ce, hT, X', hL, e1, e2, hq, hce, hcv, vx_cls hW₁ hcl, st⟩
end Runs
section Rows
variable {p : Program} {l : Launch} {e : Env} {R : Room} {s : State} {m : MethodId} {args : Array Value} {below : List Frame} {meth : Method} {c : Code} {H : Heap} {locs : List Loc} {cells slots : Nat} {Q : State → Prop}
variable {mc ms : Nat} {free : Addr → Prop} {A0 A1 : Nat → Prop} {H0 : Heap} {a : Array Value} {pc : Nat} {ls : Array Slot} {st0 rest : List Value}
theorem vx_keep {st₀ t T' : State} {L : List Loc} (h0 : st₀.heap = H) (e1 : T'.heap = t.heap) (hS : va_S A0 H0 H locs) (hA : ∀ q, q < H.size → A1 q → A0 q) (hf : ∀ q, free q → A0 q) (hL : ∀ q ∈ L, free q.base) (hF : va_F A1 st₀ t) :
    H.size ≤ T'.heap.size ∧ (∀ q : Nat, q < H.size → ¬ A1 q → T'.heap[q]? = H[q]?) ∧ va_S A0 H0 T'.heap (locs ++ L) := by
  obtain ⟨hz, hk⟩ := hF
  rw [h0] at hz hk
  exact ⟨by rw [e1]; exact hz, fun q h1 h2 => by rw [e1]; exact hk q h1 h2,
    ⟨Nat.le_trans hS.1 (by rw [e1]; exact hz), fun q h1 h2 => by rw [e1, hk q (Nat.lt_of_lt_of_le h1 hS.1) (fun z => h2 (hA q (Nat.lt_of_lt_of_le h1 hS.1) z))]; exact hS.2.1 q h1 h2, fun q hq => by
      rcases List.mem_append.mp hq with h | h
      · exact hS.2.2 q h
      · exact hf _ (hL q h)⟩⟩
theorem vx_calli {S SX : Type} {post : Int32 → S → Prop} {px : SX → Prop} {B : S → State → Prop} {BX : String → SX → State → Prop} {AX : Nat → Prop} (hr : vx_Run p l e R s m args below meth c H locs cells slots mc ms (F0 m pc ls st0) rest (va_Qi post B A1 a) (vx_X px BX AX) free) (hS : va_S A0 H0 H locs) (hA : ∀ q, q < H.size → A1 q → A0 q) (hf : ∀ q, free q → A0 q) (hAX : ∀ q, q < H.size → AX q → A0 q)
    (kx : ∀ (E : String) (ce : Cell) (q9 : Addr) (u : SX) (t : State) (H1 : Heap) (locs1 : List Loc), t.heap = H1 → s.vm.Alike t.vm → px u → BX E u t → H.size ≤ H1.size → (∀ q : Nat, q < H.size → ¬ AX q → H1[q]? = H[q]?) → va_S A0 H0 H1 locs1 → H1[q9]? = some ce → ce.vm = .none → s.vm.findClass E = some ce.cls → vx_W p l e R s m args below meth c H1 locs1 (cells + mc) (slots + ms) Q (F0 m pc ls rest) q9)
    (kk : ∀ (r : Int32) (u : S) (t : State) (H1 : Heap) (locs1 : List Loc), t.heap = H1 → s.vm.Alike t.vm → post r u → B u t → H.size ≤ H1.size → (∀ q : Nat, q < H.size → ¬ A1 q → H1[q]? = H[q]?) → va_S A0 H0 H1 locs1 → W p l e R s m args below meth c H1 locs1 (cells + mc) (slots + ms) Q (F0 m (pc + 3) ls (.int r :: rest))) : W p l e R s m args below meth c H locs cells slots Q (F0 m pc ls st0) := by
  intro T hT X
  rcases hr T hT X with ⟨v, st₀, t, T', L, h0, X', hL, e1, e2, ⟨⟨r, u, hv, hp, hb⟩, hF⟩, st⟩ | ⟨q, st₀, t, T', L, E, ce, h0, X', hL, e1, e2, ⟨u, hp, hb, hF⟩, hce, hcv, hcl, st⟩
  · cases hv
    obtain ⟨k1, k2, k3⟩ := vx_keep h0 e1 hS hA hf hL hF
    obtain ⟨t2, a1, b1⟩ := kk r u t T'.heap (locs ++ L) e1.symm (by rw [← e2]; exact X'.warmed.alike) hp hb k1 k2 k3 T' rfl X'
    exact ⟨t2, st t2 a1, b1⟩
  · obtain ⟨k1, k2, k3⟩ := vx_keep h0 e1 hS hAX hf hL hF
    obtain ⟨t2, a1, b1⟩ := kx E ce q u t T'.heap (locs ++ L) e1.symm (by rw [← e2]; exact X'.warmed.alike) hp hb k1 k2 k3 (by rw [e1]; exact hce) hcv hcl T' rfl X'
    exact ⟨t2, st.trans a1, b1⟩
theorem vx_calll {S SX : Type} {post : Int64 → S → Prop} {px : SX → Prop} {B : S → State → Prop} {BX : String → SX → State → Prop} {AX : Nat → Prop} (hr : vx_Run p l e R s m args below meth c H locs cells slots mc ms (F0 m pc ls st0) rest (va_Ql post B A1 a) (vx_X px BX AX) free) (hS : va_S A0 H0 H locs) (hA : ∀ q, q < H.size → A1 q → A0 q) (hf : ∀ q, free q → A0 q) (hAX : ∀ q, q < H.size → AX q → A0 q)
    (kx : ∀ (E : String) (ce : Cell) (q9 : Addr) (u : SX) (t : State) (H1 : Heap) (locs1 : List Loc), t.heap = H1 → s.vm.Alike t.vm → px u → BX E u t → H.size ≤ H1.size → (∀ q : Nat, q < H.size → ¬ AX q → H1[q]? = H[q]?) → va_S A0 H0 H1 locs1 → H1[q9]? = some ce → ce.vm = .none → s.vm.findClass E = some ce.cls → vx_W p l e R s m args below meth c H1 locs1 (cells + mc) (slots + ms) Q (F0 m pc ls rest) q9)
    (kk : ∀ (r : Int64) (u : S) (t : State) (H1 : Heap) (locs1 : List Loc), t.heap = H1 → s.vm.Alike t.vm → post r u → B u t → H.size ≤ H1.size → (∀ q : Nat, q < H.size → ¬ A1 q → H1[q]? = H[q]?) → va_S A0 H0 H1 locs1 → W p l e R s m args below meth c H1 locs1 (cells + mc) (slots + ms) Q (F0 m (pc + 3) ls (.long r :: rest))) : W p l e R s m args below meth c H locs cells slots Q (F0 m pc ls st0) := by
  intro T hT X
  rcases hr T hT X with ⟨v, st₀, t, T', L, h0, X', hL, e1, e2, ⟨⟨r, u, hv, hp, hb⟩, hF⟩, st⟩ | ⟨q, st₀, t, T', L, E, ce, h0, X', hL, e1, e2, ⟨u, hp, hb, hF⟩, hce, hcv, hcl, st⟩
  · cases hv
    obtain ⟨k1, k2, k3⟩ := vx_keep h0 e1 hS hA hf hL hF
    obtain ⟨t2, a1, b1⟩ := kk r u t T'.heap (locs ++ L) e1.symm (by rw [← e2]; exact X'.warmed.alike) hp hb k1 k2 k3 T' rfl X'
    exact ⟨t2, st t2 a1, b1⟩
  · obtain ⟨k1, k2, k3⟩ := vx_keep h0 e1 hS hAX hf hL hF
    obtain ⟨t2, a1, b1⟩ := kx E ce q u t T'.heap (locs ++ L) e1.symm (by rw [← e2]; exact X'.warmed.alike) hp hb k1 k2 k3 (by rw [e1]; exact hce) hcv hcl T' rfl X'
    exact ⟨t2, st.trans a1, b1⟩
theorem vx_callf {S SX : Type} {post : UInt32 → S → Prop} {px : SX → Prop} {B : S → State → Prop} {BX : String → SX → State → Prop} {AX : Nat → Prop} (hr : vx_Run p l e R s m args below meth c H locs cells slots mc ms (F0 m pc ls st0) rest (va_Qf post B A1 a) (vx_X px BX AX) free) (hS : va_S A0 H0 H locs) (hA : ∀ q, q < H.size → A1 q → A0 q) (hf : ∀ q, free q → A0 q) (hAX : ∀ q, q < H.size → AX q → A0 q)
    (kx : ∀ (E : String) (ce : Cell) (q9 : Addr) (u : SX) (t : State) (H1 : Heap) (locs1 : List Loc), t.heap = H1 → s.vm.Alike t.vm → px u → BX E u t → H.size ≤ H1.size → (∀ q : Nat, q < H.size → ¬ AX q → H1[q]? = H[q]?) → va_S A0 H0 H1 locs1 → H1[q9]? = some ce → ce.vm = .none → s.vm.findClass E = some ce.cls → vx_W p l e R s m args below meth c H1 locs1 (cells + mc) (slots + ms) Q (F0 m pc ls rest) q9)
    (kk : ∀ (r : UInt32) (u : S) (t : State) (H1 : Heap) (locs1 : List Loc), t.heap = H1 → s.vm.Alike t.vm → post r u → B u t → H.size ≤ H1.size → (∀ q : Nat, q < H.size → ¬ A1 q → H1[q]? = H[q]?) → va_S A0 H0 H1 locs1 → W p l e R s m args below meth c H1 locs1 (cells + mc) (slots + ms) Q (F0 m (pc + 3) ls (.float r :: rest))) : W p l e R s m args below meth c H locs cells slots Q (F0 m pc ls st0) := by
  intro T hT X
  rcases hr T hT X with ⟨v, st₀, t, T', L, h0, X', hL, e1, e2, ⟨⟨r, u, hv, hp, hb⟩, hF⟩, st⟩ | ⟨q, st₀, t, T', L, E, ce, h0, X', hL, e1, e2, ⟨u, hp, hb, hF⟩, hce, hcv, hcl, st⟩
  · cases hv
    obtain ⟨k1, k2, k3⟩ := vx_keep h0 e1 hS hA hf hL hF
    obtain ⟨t2, a1, b1⟩ := kk r u t T'.heap (locs ++ L) e1.symm (by rw [← e2]; exact X'.warmed.alike) hp hb k1 k2 k3 T' rfl X'
    exact ⟨t2, st t2 a1, b1⟩
  · obtain ⟨k1, k2, k3⟩ := vx_keep h0 e1 hS hAX hf hL hF
    obtain ⟨t2, a1, b1⟩ := kx E ce q u t T'.heap (locs ++ L) e1.symm (by rw [← e2]; exact X'.warmed.alike) hp hb k1 k2 k3 (by rw [e1]; exact hce) hcv hcl T' rfl X'
    exact ⟨t2, st.trans a1, b1⟩
theorem vx_calld {S SX : Type} {post : UInt64 → S → Prop} {px : SX → Prop} {B : S → State → Prop} {BX : String → SX → State → Prop} {AX : Nat → Prop} (hr : vx_Run p l e R s m args below meth c H locs cells slots mc ms (F0 m pc ls st0) rest (va_Qd post B A1 a) (vx_X px BX AX) free) (hS : va_S A0 H0 H locs) (hA : ∀ q, q < H.size → A1 q → A0 q) (hf : ∀ q, free q → A0 q) (hAX : ∀ q, q < H.size → AX q → A0 q)
    (kx : ∀ (E : String) (ce : Cell) (q9 : Addr) (u : SX) (t : State) (H1 : Heap) (locs1 : List Loc), t.heap = H1 → s.vm.Alike t.vm → px u → BX E u t → H.size ≤ H1.size → (∀ q : Nat, q < H.size → ¬ AX q → H1[q]? = H[q]?) → va_S A0 H0 H1 locs1 → H1[q9]? = some ce → ce.vm = .none → s.vm.findClass E = some ce.cls → vx_W p l e R s m args below meth c H1 locs1 (cells + mc) (slots + ms) Q (F0 m pc ls rest) q9)
    (kk : ∀ (r : UInt64) (u : S) (t : State) (H1 : Heap) (locs1 : List Loc), t.heap = H1 → s.vm.Alike t.vm → post r u → B u t → H.size ≤ H1.size → (∀ q : Nat, q < H.size → ¬ A1 q → H1[q]? = H[q]?) → va_S A0 H0 H1 locs1 → W p l e R s m args below meth c H1 locs1 (cells + mc) (slots + ms) Q (F0 m (pc + 3) ls (.double r :: rest))) : W p l e R s m args below meth c H locs cells slots Q (F0 m pc ls st0) := by
  intro T hT X
  rcases hr T hT X with ⟨v, st₀, t, T', L, h0, X', hL, e1, e2, ⟨⟨r, u, hv, hp, hb⟩, hF⟩, st⟩ | ⟨q, st₀, t, T', L, E, ce, h0, X', hL, e1, e2, ⟨u, hp, hb, hF⟩, hce, hcv, hcl, st⟩
  · cases hv
    obtain ⟨k1, k2, k3⟩ := vx_keep h0 e1 hS hA hf hL hF
    obtain ⟨t2, a1, b1⟩ := kk r u t T'.heap (locs ++ L) e1.symm (by rw [← e2]; exact X'.warmed.alike) hp hb k1 k2 k3 T' rfl X'
    exact ⟨t2, st t2 a1, b1⟩
  · obtain ⟨k1, k2, k3⟩ := vx_keep h0 e1 hS hAX hf hL hF
    obtain ⟨t2, a1, b1⟩ := kx E ce q u t T'.heap (locs ++ L) e1.symm (by rw [← e2]; exact X'.warmed.alike) hp hb k1 k2 k3 (by rw [e1]; exact hce) hcv hcl T' rfl X'
    exact ⟨t2, st.trans a1, b1⟩
theorem vx_callv {S SX : Type} {post : S → Prop} {px : SX → Prop} {B : S → State → Prop} {BX : String → SX → State → Prop} {AX : Nat → Prop} (hr : vx_Run p l e R s m args below meth c H locs cells slots mc ms (F0 m pc ls st0) rest (va_Qv post B A1 a) (vx_X px BX AX) free) (hS : va_S A0 H0 H locs) (hA : ∀ q, q < H.size → A1 q → A0 q) (hf : ∀ q, free q → A0 q) (hAX : ∀ q, q < H.size → AX q → A0 q)
    (kx : ∀ (E : String) (ce : Cell) (q9 : Addr) (u : SX) (t : State) (H1 : Heap) (locs1 : List Loc), t.heap = H1 → s.vm.Alike t.vm → px u → BX E u t → H.size ≤ H1.size → (∀ q : Nat, q < H.size → ¬ AX q → H1[q]? = H[q]?) → va_S A0 H0 H1 locs1 → H1[q9]? = some ce → ce.vm = .none → s.vm.findClass E = some ce.cls → vx_W p l e R s m args below meth c H1 locs1 (cells + mc) (slots + ms) Q (F0 m pc ls rest) q9)
    (kk : ∀ (u : S) (t : State) (H1 : Heap) (locs1 : List Loc), t.heap = H1 → s.vm.Alike t.vm → post u → B u t → H.size ≤ H1.size → (∀ q : Nat, q < H.size → ¬ A1 q → H1[q]? = H[q]?) → va_S A0 H0 H1 locs1 → W p l e R s m args below meth c H1 locs1 (cells + mc) (slots + ms) Q (F0 m (pc + 3) ls (rest))) : W p l e R s m args below meth c H locs cells slots Q (F0 m pc ls st0) := by
  intro T hT X
  rcases hr T hT X with ⟨v, st₀, t, T', L, h0, X', hL, e1, e2, ⟨⟨u, hv, hp, hb⟩, hF⟩, st⟩ | ⟨q, st₀, t, T', L, E, ce, h0, X', hL, e1, e2, ⟨u, hp, hb, hF⟩, hce, hcv, hcl, st⟩
  · cases hv
    obtain ⟨k1, k2, k3⟩ := vx_keep h0 e1 hS hA hf hL hF
    obtain ⟨t2, a1, b1⟩ := kk u t T'.heap (locs ++ L) e1.symm (by rw [← e2]; exact X'.warmed.alike) hp hb k1 k2 k3 T' rfl X'
    exact ⟨t2, st t2 a1, b1⟩
  · obtain ⟨k1, k2, k3⟩ := vx_keep h0 e1 hS hAX hf hL hF
    obtain ⟨t2, a1, b1⟩ := kx E ce q u t T'.heap (locs ++ L) e1.symm (by rw [← e2]; exact X'.warmed.alike) hp hb k1 k2 k3 (by rw [e1]; exact hce) hcv hcl T' rfl X'
    exact ⟨t2, st.trans a1, b1⟩
/-- caught by the row x of this method's table; the rows ahead don't take it -/
theorem vx_catch {own name : String} {E : String} {ce : Cell} {q : Addr} (hown : s.vm.findClass own = some m.cls) (pre : List ExceptionTableEntry) (x : ExceptionTableEntry) (suf : List ExceptionTableEntry) (hsplit : c.exceptionTable.toList = pre ++ x :: suf)
    (hpass : ∀ z ∈ pre, covers z pc = false ∨ (z.catchType ≠ 0 ∧ ∃ nm : String, (Cond.classLink own z.catchType nm).before args s = true ∧ va_Nc E nm s)) (hx : covers x pc = true) (h0 : x.catchType ≠ 0)
    (hlink : (Cond.classLink own x.catchType name).before args s = true) (hcast : (Cond.castable E name).before args s = true) (hcell : H[q]? = some ce) (hv : ce.vm = .none) (hcl : s.vm.findClass E = some ce.cls)
    (kk : W p l e R s m args below meth c H locs cells slots Q (F0 m x.handlerPc ls [.ref q])) : vx_W p l e R s m args below meth c H locs cells slots Q (F0 m pc ls rest) q := by
  intro T hT X
  have hpl : e.platform.magicAccessors = ({} : Platform).magicAccessors := by rw [X.admits.platform]
  obtain ⟨c3, c4, hc3, hc4, hasg⟩ := Cond.castable_spec hcast
  cases Option.some.inj (hc3.symm.trans hcl)
  obtain ⟨c5, hc5, hcl5⟩ := Cond.classLink_spec hown hlink e.platform hpl
  cases Option.some.inj (hc4.symm.trans hc5)
  obtain ⟨vm', X', st⟩ := X.thenCaughtThrough q (g := F0 m pc ls rest) rfl (Steps.refl _) (by rw [hT]; exact hcell) (by rw [hv]; rfl) (by obtain ⟨k9, h9, -⟩ := Vm.findClass_spec hcl; exact ⟨k9, h9⟩) pre x suf hsplit
    (fun z hz => by
      rcases hpass z hz with h | ⟨hz0, nm, hl1, hn1⟩
      · exact Or.inl h
      · obtain ⟨c6, hc6, hcl6⟩ := Cond.classLink_spec hown hl1 e.platform hpl
        obtain ⟨a8, b8, h1, h2, h3⟩ := hn1
        cases Option.some.inj (h1.symm.trans hcl)
        cases Option.some.inj (h2.symm.trans hc6)
        exact Or.inr ⟨hz0, _, hcl6, h3⟩) hx (Or.inr ⟨h0, c4, hcl5, hasg⟩)
  obtain ⟨t, a1, b1⟩ := kk (T.setVm vm') hT X'
  exact ⟨t, st.trans a1, b1⟩
end Rows
section Ends
variable {p : Program} {l : Launch} {e : Env} {R : Room} {s : State} {m : MethodId} {args : Array Value} {below : List Frame} {meth : Method} {c : Code} {H : Heap} {locs : List Loc} {cells slots : Nat} {Q : State → Prop}
variable {mc ms : Nat} {free : Addr → Prop} {A0 A1 : Nat → Prop} {H0 : Heap} {a : Array Value} {ls : Array Slot} {st0 rest : List Value}
variable {Qc : Array Value → State → Outcome → State → Prop} {XC : String → State → State → Prop}
/-- what a body that may throw owes at its end -/
def vx_MQ (below : List Frame) (Qc : Array Value → State → Outcome → State → Prop) (XC : String → State → State → Prop) (a : Array Value) (s : State) (mc ms : Nat) (free : Addr → Prop) : State → Prop := fun t =>
  ∃ o, t.status = .running ∧ Ended t below o ∧ vx_Q Qc XC mc ms free a s o t
theorem vx_ret {g : JFrame} {mc ms : Nat} (k : W p l e R s m args below meth c H locs cells slots (MQ below Qc args s mc ms free) g) : W p l e R s m args below meth c H locs cells slots (vx_MQ below Qc XC args s mc ms free) g := by
  intro T hT X
  obtain ⟨t, a1, o, b1, b2, b3, b4⟩ := k T hT X
  exact ⟨t, a1, o, b1, b2, Or.inl ⟨b3, b4⟩⟩
/-- not caught here: it goes on to the caller -/
theorem vx_widen {g : JFrame} {q : Addr} {k n : Nat} (h1 : cells ≤ k) (h2 : slots ≤ n) (kk : vx_W p l e R s m args below meth c H locs k n Q g q) : vx_W p l e R s m args below meth c H locs cells slots Q g q := fun T hT X => kk T hT (stand_widen X h1 h2)
theorem vx_out {pc : Nat} {E : String} {ce : Cell} {q : Addr} {mc ms : Nat} (hout : ∀ x ∈ c.exceptionTable.toList, covers x pc = false) (hlocks : meth.locks = false) (hcell : H[q]? = some ce) (hv : ce.vm = .none) (hcl : s.vm.findClass E = some ce.cls)
    (hx : ∀ t : State, t.heap = H → s.vm.Alike t.vm → XC E s t) (hf : ∀ z ∈ locs, free z.base) (hc : cells ≤ mc) (hs : slots ≤ ms) :
    vx_W p l e R s m args below meth c H locs cells slots (vx_MQ below Qc XC args s mc ms free) (F0 m pc ls rest) q := by
  intro T hT X
  obtain ⟨st1, hrun, hend, hW, hsm⟩ := X.leaveThrown q (g := F0 m pc ls rest) rfl rfl rfl hout hlocks
  have hcell9 : (T.setFrames (.throwing q :: below)).heap[q]? = some ce := by
    show T.heap[q]? = some ce
    rw [hT]; exact hcell
  exact ⟨_, st1, .threw q, hrun, hend, Or.inr ⟨q, rfl, E, ce, locs, hx _ hT hW.alike, hcell9, hv, hcl, hW, hsm.mono hc hs, hf⟩⟩
theorem vx_frame {U : State} {k n : Nat} (h : s.sameButNew ({ U with vm := s.vm } : State) locs k n) : s.heap.size ≤ U.heap.size ∧ ∀ q : Nat, q < s.heap.size → (∀ z ∈ locs, z.base ≠ q) → U.heap[q]? = s.heap[q]? := by
  obtain ⟨-, h2, -, -, -, h6⟩ := h
  refine ⟨h2, fun q hq hz => ?_⟩
  obtain ⟨c9, e1, e2, e3, e4⟩ := h6 q _ (Array.getElem?_eq_getElem hq)
  have hs : c9.slots = (s.heap[q]).slots := Array.ext_getElem? fun i => e4 i fun hm => hz _ hm rfl
  have h9 : c9 = s.heap[q] := by
    rw [hs] at e2
    exact e2
  have e5 : U.heap[q]? = some c9 := e1
  rw [e5, h9, Array.getElem?_eq_getElem hq]
/-- the words of a throw but the four that speak of the heap -/
def vx_no (w : Cond) : Bool := decide (w ≠ .isRef (.static Bundle.tN "UNASSIGNED_STACK" Bundle.steD)) && decide (w ≠ .isRef (.static Bundle.tN "SUPPRESSED_SENTINEL" Bundle.listD)) && decide (w ≠ .laysStatic Bundle.tN "UNASSIGNED_STACK" Bundle.steD) && decide (w ≠ .laysStatic Bundle.tN "SUPPRESSED_SENTINEL" Bundle.listD)
def vx_at0 (own : String) (ic : Nat) (X : String) (names : List String) : List Cond := (Bundle.ownAtoms0 own ic X names).filter vx_no
def vx_atS (own : String) (ic : Nat) (X : String) (names : List String) : List Cond := (Bundle.ownAtoms own ic X names).filter vx_no
/-- a word that the tables alone decide, or a good one -/
def vx_ot (w : Cond) : Bool := w.onTables || goodWord w
theorem vx_ot_at {args a' : Array Value} {s U : State} {w : Cond} (hW : s.WarmedH U.vm) (hvm : s.vm = U.vm) (hg : vx_ot w = true) (h : w.before args s = true) : w.before a' U = true := by
  simp only [vx_ot, Bool.or_eq_true] at hg
  rcases hg with hg | hg
  · exact va_tabs hg hvm h
  · exact word_at hW (good_of_word hg) h
/-- a list's words: the good ones out of the method's own list, the others by premises of their own -/
theorem vx_hat {args : Array Value} {s : State} {L B : List Cond} (h1 : ∀ w ∈ L.filter goodWord, w.before args s = true) (h2 : ∀ w ∈ L.filter (fun w => !goodWord w), w ∈ B) (h3 : ∀ w ∈ B, w.before args s = true) : ∀ w ∈ L, w.before args s = true := by
  intro w hw
  by_cases g : goodWord w = true
  · exact h1 w (List.mem_filter.mpr ⟨hw, g⟩)
  · refine h3 w (h2 w (List.mem_filter.mpr ⟨hw, ?_⟩))
    show (!goodWord w) = true
    cases hgw : goodWord w
    · rfl
    · exact absurd hgw g
theorem vx_c {args : Array Value} {s : State} {w : Cond} {B : List Cond} (h : w.before args s = true) (t : ∀ w ∈ B, w.before args s = true) : ∀ w' ∈ w :: B, w'.before args s = true := fun w' h' => (List.mem_cons.mp h').elim (fun e => by rw [e]; exact h) (t w')
theorem vx_n {args : Array Value} {s : State} : ∀ w ∈ ([] : List Cond), w.before args s = true := fun _ h => nomatch h
theorem vx_own {args : Array Value} {s : State} {L : List Cond} (h1 : ∀ w ∈ L.filter vx_no, w.before args s = true)
    (hU : (Cond.isRef (.static Bundle.tN "UNASSIGNED_STACK" Bundle.steD)).before args s = true) (hN : (Cond.isRef (.static Bundle.tN "SUPPRESSED_SENTINEL" Bundle.listD)).before args s = true)
    (lU : (Cond.laysStatic Bundle.tN "UNASSIGNED_STACK" Bundle.steD).before args s = true) (lN : (Cond.laysStatic Bundle.tN "SUPPRESSED_SENTINEL" Bundle.listD).before args s = true) : ∀ w ∈ L, w.before args s = true := by
  intro w hw
  by_cases e1 : w = .isRef (.static Bundle.tN "UNASSIGNED_STACK" Bundle.steD)
  · rw [e1]; exact hU
  · by_cases e2 : w = .isRef (.static Bundle.tN "SUPPRESSED_SENTINEL" Bundle.listD)
    · rw [e2]; exact hN
    · by_cases e3 : w = .laysStatic Bundle.tN "UNASSIGNED_STACK" Bundle.steD
      · rw [e3]; exact lU
      · by_cases e4 : w = .laysStatic Bundle.tN "SUPPRESSED_SENTINEL" Bundle.listD
        · rw [e4]; exact lN
        · exact h1 w (List.mem_filter.mpr ⟨hw, by unfold vx_no; rw [decide_eq_true e1, decide_eq_true e2, decide_eq_true e3, decide_eq_true e4]; rfl⟩)
/-- where a static field lies, its class's statics cell in H -/
def vx_L (C n d : String) (A : Nat → Prop) (U : State) (H : Heap) : Prop := ∃ (c : ClassId) (k : Class) (i : Nat) (f : Field) (a : Nat) (cell : Cell), U.vm.findClass C = some c ∧ U.fieldFound? C n d = some (c, k, i, f) ∧ f.isStatic = true ∧ k.statics = some a ∧ H[a]? = some cell ∧ cell.vm.isStatics = true ∧ cell.cls = c ∧ f.slot < cell.slots.size ∧ k.staticTypes[f.slot]? = some f.type ∧ ¬ A a
theorem vx_L.moved {C n d : String} {A : Nat → Prop} {u U : State} {H : Heap} (hvm : u.vm.Alike U.vm) (h : vx_L C n d A u H) : vx_L C n d A U H := by
  obtain ⟨c, k, i, f, a, cell, h1, h2, h3, h4, h5, h6, h7, h8, h9, h10⟩ := h
  obtain ⟨k', hi', he⟩ := State.fieldFound?_setVm hvm h2
  exact ⟨c, k', i, f, a, cell, by rw [hvm.findClass]; exact h1, hi', h3, by rw [he]; exact h4, h5, h6, h7, h8, by rw [he]; exact h9, h10⟩
theorem vx_L.kept {C n d : String} {A : Nat → Prop} {U : State} {H H1 : Heap} (h : vx_L C n d A U H) (hq : ∀ a : Nat, a < H.size → ¬ A a → H1[a]? = H[a]?) : vx_L C n d A U H1 := by
  obtain ⟨c, k, i, f, a, cell, h1, h2, h3, h4, h5, h6, h7, h8, h9, h10⟩ := h
  exact ⟨c, k, i, f, a, cell, h1, h2, h3, h4, by rw [hq a (Array.getElem?_eq_some_iff.mp h5).1 h10]; exact h5, h6, h7, h8, h9, h10⟩
theorem vx_L.narrow {C n d : String} {A B : Nat → Prop} {U : State} {H : Heap} (h : vx_L C n d A U H) (hAB : ∀ q, B q → A q) : vx_L C n d B U H := by
  obtain ⟨c, k, i, f, a, cell, h1, h2, h3, h4, h5, h6, h7, h8, h9, h10⟩ := h
  exact ⟨c, k, i, f, a, cell, h1, h2, h3, h4, h5, h6, h7, h8, h9, fun z => h10 (hAB _ z)⟩
theorem vx_L.word {C n d : String} {A : Nat → Prop} {s : State} {args : Array Value} (h : vx_L C n d A s s.heap) : (Cond.laysStatic C n d).before args s = true := by
  obtain ⟨c, k, i, f, a, cell, h1, h2, h3, h4, h5, h6, h7, h8, h9, -⟩ := h
  show (Cond.laysStatic C n d).holds args s none s [] = true
  exact Cond.laysStatic_of h1 h2 h3 h4 h5 h6 h7 h8 h9
/-- .. and what it holds: null or some reference -/
def vx_Zq (C n d : String) (A : Nat → Prop) (U : State) (H : Heap) : Prop := va_Zq C n d A U H ∧ vx_L C n d A U H
theorem vx_Zq.moved {C n d : String} {A : Nat → Prop} {u U : State} {H : Heap} (hvm : u.vm.Alike U.vm) (h : vx_Zq C n d A u H) : vx_Zq C n d A U H := ⟨va_Zq.moved hvm h.1, vx_L.moved hvm h.2⟩
theorem vx_Zq.kept {C n d : String} {A : Nat → Prop} {U : State} {H H1 : Heap} (h : vx_Zq C n d A U H) (hq : ∀ a : Nat, a < H.size → ¬ A a → H1[a]? = H[a]?) : vx_Zq C n d A U H1 := ⟨va_Zq.kept h.1 hq, vx_L.kept h.2 hq⟩
theorem vx_Zq.narrow {C n d : String} {A B : Nat → Prop} {U : State} {H : Heap} (h : vx_Zq C n d A U H) (hAB : ∀ q, B q → A q) : vx_Zq C n d B U H := ⟨va_Zq.narrow h.1 hAB, vx_L.narrow h.2 hAB⟩
theorem vx_Zqof {args : Array Value} {s : State} {C n d : String} {A : Nat → Prop} (hl : (Cond.laysStatic C n d).before args s = true) (hini : (Cond.initialized C).before args s = true) (h : (Cond.isRef (.static C n d)).before args s = true) (hA : ∀ a : Nat, a < s.heap.size → ¬ A a) : vx_Zq C n d A s s.heap := by
  refine ⟨va_Zqof hl hini h hA, ?_⟩
  obtain ⟨c, k, i, f, a, cell, h1, h2, h3, h4, h5, h6, h7, h8, h9⟩ := Cond.laysStatic_spec hl
  exact ⟨c, k, i, f, a, cell, h1, h2, h3, h4, h5, h6, h7, h8, h9, hA a (Array.getElem?_eq_some_iff.mp h5).1⟩
theorem vx_isRef {C n d : String} {v : Value} {A : Nat → Prop} {s : State} {args : Array Value} (h : va_Z C n d v A s s.heap) (hv : v.isRef = true) : (Cond.isRef (.static C n d)).before args s = true := by
  obtain ⟨cf, kf, fi, f, a, cell, h1, h2, h3, h4, h5, h6, h7, -⟩ := h
  have he : (Term.static C n d).eval args s none [] s = some v := by
    simp [Term.eval, State.fieldNamed?, h1, h2, h4, h5, h6, h7]
  simp only [Cond.before, Cond.holds, Cond.value, he]
  cases v <;> simp_all [Value.isRef]
theorem vx_isRefq {C n d : String} {A : Nat → Prop} {s : State} {args : Array Value} (h : va_Zq C n d A s s.heap) : (Cond.isRef (.static C n d)).before args s = true := by
  rcases h with h | ⟨t, h⟩
  · exact vx_isRef h rfl
  · exact vx_isRef h rfl
/-- the same frame, seen from here: as if the method were called anew in this heap -/
theorem vx_rebase {T : State} (X : Stand p l e R s m args below meth c T locs cells slots) {R' : Room} (hf : R'.frames ≤ R.frames) (hl : R'.locals ≤ R.locals) (hc : cells + R'.cells ≤ R.cells) (hs : slots + R'.slots ≤ R.slots) :
    Stand p l e R' ((T.setVm s.vm).setFrames (.invoking m args :: below)) m args below meth c T [] 0 0 := by
  have htop : (T.setVm s.vm).topJava?.isSome := X.here.top
  have hF : ((T.setVm s.vm).setFrames (.invoking m args :: below)).frames = .invoking m args :: below := State.frames_setFrames _ (State.cur_lt_of_top htop)
  obtain ⟨g₀, hg0⟩ := Option.isSome_iff_exists.mp htop
  obtain ⟨r, hr⟩ := State.topJava?_eq_some.mp hg0
  have hl9 : e.platform.stackLimits (T.setVm s.vm).me = e.platform.stackLimits s.me := X.limits
  have hb9 : (T.setVm s.vm).me.stackBytes = s.me.stackBytes := X.bytes
  refine ⟨X.admits, X.cas, X.clock, hF, ?_, X.hears, X.method, X.code, X.here, X.tail, X.warmed, ?_, ?_, ?_⟩
  · have h := X.room
    have hU : ((T.setVm s.vm).setFrames (.invoking m args :: below)).localsInUse = s.localsInUse := by
      rw [State.localsInUse_invoking hF (meth := meth) (c := c) X.method X.code, State.localsInUse_invoking X.frames X.method X.code]
    simp only [State.hasRoom, Bool.and_eq_true, decide_eq_true_eq] at h ⊢
    obtain ⟨⟨⟨⟨h1, h2, h3, h4, h5, h6⟩, h7⟩, h8⟩, h9⟩ := h
    rw [X.frames, List.length_cons] at h2 h3
    have q1 := X.heapSize
    have q2 := X.used
    simp only [hF, hU, List.length_cons, State.stackLimits_setFrames, State.stackBytes_setFrames, hl9, hb9]
    refine ⟨⟨⟨⟨by omega, by omega, by omega, by omega, by omega, h6⟩, ?_⟩, ?_⟩, X.book⟩
    · show T.heap.size + R'.cells ≤ e.platform.maxCells
      omega
    · show T.slotsUsed + R'.slots ≤ e.platform.maxSlots
      omega
  · rw [State.stackLimits_setFrames]; rfl
  · rw [State.stackBytes_setFrames]; rfl
  · refine ⟨?_, Nat.le_refl _, Nat.le_refl _, ?_, ?_, fun a c9 h9 => ⟨c9, h9, rfl, rfl, fun _ _ => rfl⟩⟩
    · obtain ⟨t, ht, -⟩ := State.frames_cons hr
      show T.setVm s.vm = { ((T.setVm s.vm).setFrames (.invoking m args :: below)).setFrames (T.setVm s.vm).frames with heap := T.heap, slotsUsed := T.slotsUsed }
      rw [State.setFrames_setFrames, State.setFrames_self ht]
      rfl
    · show T.slotsUsed = T.slotsUsed + ((T.heap.toList.drop T.heap.size).map (·.slots.size)).sum
      rw [List.drop_eq_nil_of_le (Nat.le_of_eq Array.length_toList)]
      rfl
    · show ((T.heap.toList.drop T.heap.size).map (·.slots.size)).sum ≤ 0
      rw [List.drop_eq_nil_of_le (Nat.le_of_eq Array.length_toList)]
      exact Nat.le_refl _
/-- 'throw new E()': new; dup; invokespecial; athrow -/
theorem vx_throw0 {cc : ByteArray} {pc : Nat} (hexec : p.tables.exec = Jvm.exec) (hb : c.code = cc) (hl : l.stackTraces = false) {own cls : String} {names : List String} {ik ic mc ms : Nat} {A : Nat → Prop}
    (hown : s.vm.findClass own = some m.cls) (hcls : Bundle.fit cls = true) (hnames : ∀ n ∈ names, Bundle.fit n = true)
    (hk : (Cond.classLink own ik cls).before args s = true) (hini : (Cond.initialized cls).before args s = true) (hat : ∀ w ∈ vx_at0 own ic cls names, w.before args s = true)
    (hgood : ∀ w ∈ Cond.classLink own ik cls :: Cond.initialized cls :: vx_at0 own ic cls names, vx_ot w = true)
    (hU : vx_Zq Bundle.tN "UNASSIGNED_STACK" Bundle.steD A s s.heap) (hN : vx_Zq Bundle.tN "SUPPRESSED_SENTINEL" Bundle.listD A s s.heap) (hS : va_S A s.heap H locs) (hsize : ls.size = c.maxLocals)
    (d0 : decode cc pc = .ok (.new ik, 3)) (d3 : decode cc (pc + 3) = .ok (.dup, 1)) (d4 : decode cc (pc + 4) = .ok (.invokespecial ic, 3)) (d7 : decode cc (pc + 7) = .ok (.athrow, 1))
    (hout : ∀ x ∈ c.exceptionTable.toList, covers x (pc + 7) = false)
    (hRframes : names.length + 3 < R.frames) (hRlocals : (rest.map fun v => v.category).sum + (13 * (names.length + 1) + 42) ≤ R.locals) (hRcells : cells + 1 ≤ R.cells) (hRslots : slots + 6 ≤ R.slots) (hlocks : meth.locks = false)
    (hx : ∀ t : State, s.vm.Alike t.vm → H.size ≤ t.heap.size → (∀ q : Nat, q < H.size → t.heap[q]? = H[q]?) → XC cls s t)
    (hf : ∀ z ∈ locs, free z.base) (hc : cells + 1 ≤ mc) (hs : slots + 6 ≤ ms) :
    W p l e R s m args below meth c H locs cells slots (vx_MQ below Qc XC args s mc ms free) (F0 m pc ls rest) := by
  intro T hT X
  have htr : e.platform.stackTraces = false := (show e.platform.stackTraces = l.stackTraces by rw [X.admits.platform]).trans hl
  have Y := vx_rebase X (R' := { frames := R.frames, locals := R.locals, cells := 1, slots := 6 }) (Nat.le_refl _) (Nat.le_refl _) hRcells hRslots
  obtain ⟨s', hA⟩ : ∃ z, z = (T.setVm s.vm).setFrames (.invoking m args :: below) := ⟨_, rfl⟩
  rw [← hA] at Y
  have hvm : s'.vm = s.vm := by rw [hA]; rfl
  have hhp : s'.heap = H := by rw [hA]; exact hT
  have hW0 : s.WarmedH s'.vm := by rw [hvm]; exact State.WarmedH.refl s
  have hat' : ∀ w ∈ vx_at0 own ic cls names, w.before args s' = true := fun w hw => vx_ot_at hW0 hvm.symm (hgood w (List.mem_cons_of_mem _ (List.mem_cons_of_mem _ hw))) (hat w hw)
  have hk' : (Cond.classLink own ik cls).before args s' = true := vx_ot_at hW0 hvm.symm (hgood _ List.mem_cons_self) hk
  have hini' : (Cond.initialized cls).before args s' = true := vx_ot_at hW0 hvm.symm (hgood _ (List.mem_cons_of_mem _ List.mem_cons_self)) hini
  have hU' : vx_Zq Bundle.tN "UNASSIGNED_STACK" Bundle.steD A s' s'.heap := by rw [hhp]; exact vx_Zq.moved hW0.alike (hU.kept hS.2.1)
  have hN' : vx_Zq Bundle.tN "SUPPRESSED_SENTINEL" Bundle.listD A s' s'.heap := by rw [hhp]; exact vx_Zq.moved hW0.alike (hN.kept hS.2.1)
  have h : ∀ w ∈ Bundle.ownAtoms0 own ic cls names, w.before args s' = true := vx_own hat' (vx_isRefq hU'.1) (vx_isRefq hN'.1) hU'.2.word hN'.2.word
  have hown' : s'.vm.findClass own = some m.cls := by rw [hvm]; exact hown
  have hins : (Cond.instantiable cls 6).before args s' = true := h _ (by simp [Bundle.ownAtoms0])
  obtain ⟨vm₁, cX, kX, hfX, hkX, -, -, X₁, st1⟩ := Y.newCold hexec (own := own) (C := cls) (index := ik) (n := 6) hown' hk' hins hini'
    (g := F0 m pc ls rest) rfl (by rw [hb]; exact d0) (Nat.le_refl _) (Nat.le_refl _)
  generalize hT1 : (T.setVm vm₁).pushCell { cls := cX, slots := kX.instanceTypes.map defaultValue, vm := .none } = T1 at X₁ st1
  have hcat : (Value.ref T.heap.size).category = 1 := rfl
  have hcellA : T1.heap[T.heap.size]? = some (freshCell cX kX) := by rw [← hT1]; exact State.heap_pushCell_size _ _
  have d3' : decode c.code (pc + 3) = .ok (.dup, 1) := by rw [hb]; exact d3
  obtain ⟨U, hsteps, hrun, hend, hW, hsame, ce, hce, hO⟩ := X₁.ctorThrow0 hexec htr (own := own) (cls := cls) (names := names) (ic := ic) hown' hcls hnames h (fun x hx => nomatch hx) hfX hkX hcellA (by rw [hhp, hT]; exact Nat.le_refl _)
    (g := { method := m, pc := pc + 4, locals := ls, stack := .ref T.heap.size :: .ref T.heap.size :: rest, locked := none }) rfl hsize rfl rfl (rest := rest) rfl
    (by rw [hb]; exact d4) (by rw [hb]; exact d7) hout hRframes (by simp only [List.map_cons, List.sum_cons, hcat]; omega) hlocks
  obtain ⟨f1, f2⟩ := vx_frame hsame
  rw [hhp] at f1 f2
  have hWs : s.WarmedH U.vm := State.WarmedH.trans hW0 hW
  have hcl : s.vm.findClass cls = some ce.cls := by
    have h9 := hO.cls
    rw [hvm] at h9
    exact h9
  have hall : s.sameButNew ({ U with vm := s.vm } : State) locs mc ms := by
    subst hA
    obtain ⟨e1, e2⟩ := hsame
    rw [State.setFrames_setFrames] at e1
    have h2 : (T.setVm s.vm).sameButNew ({ U with vm := s.vm } : State) [] (0 + 1) (0 + 6) := ⟨e1, e2⟩
    have h3 := X.same.trans h2
    rw [List.append_nil] at h3
    exact h3.mono hc hs
  refine ⟨U, ?_, .threw T.heap.size, hrun, hend, Or.inr ⟨T.heap.size, rfl, cls, ce, locs, hx U hWs.alike f1 (fun q hq => f2 q hq (fun z hz => nomatch hz)), hce, hO.vm, hcl, hWs, hall, hf⟩⟩
  refine st1 _ ?_
  show Steps p.tables e below (T1.setTop { method := m, pc := pc + 3, locals := ls, stack := .ref T.heap.size :: rest, locked := none }) _
  jvm_step X₁.here [X₁.here.top, hexec, d3', Value.category]
  exact hsteps
/-- 'throw new E("text")': new; dup; ldc; invokespecial; athrow -/
theorem vx_throwS {cc : ByteArray} {pc : Nat} (hexec : p.tables.exec = Jvm.exec) (hb : c.code = cc) (hl : l.stackTraces = false) {own cls text : String} {names : List String} {ik is ic mc ms sa : Nat} {A : Nat → Prop}
    (hown : s.vm.findClass own = some m.cls) (hcls : Bundle.fit cls = true) (hnames : ∀ n ∈ names, Bundle.fit n = true)
    (hk : (Cond.classLink own ik cls).before args s = true) (hini : (Cond.initialized cls).before args s = true) (hstr : vk_R own is text sa s) (hat : ∀ w ∈ vx_atS own ic cls names, w.before args s = true)
    (hgood : ∀ w ∈ Cond.classLink own ik cls :: Cond.initialized cls :: vx_atS own ic cls names, vx_ot w = true)
    (hU : vx_Zq Bundle.tN "UNASSIGNED_STACK" Bundle.steD A s s.heap) (hN : vx_Zq Bundle.tN "SUPPRESSED_SENTINEL" Bundle.listD A s s.heap) (hS : va_S A s.heap H locs) (hsize : ls.size = c.maxLocals)
    (d0 : decode cc pc = .ok (.new ik, 3)) (d3 : decode cc (pc + 3) = .ok (.dup, 1)) (d4 : decode cc (pc + 4) = .ok (.ldc is, 2)) (d6 : decode cc (pc + 6) = .ok (.invokespecial ic, 3)) (d9 : decode cc (pc + 9) = .ok (.athrow, 1))
    (hout : ∀ x ∈ c.exceptionTable.toList, covers x (pc + 9) = false)
    (hRframes : names.length + 3 < R.frames) (hRlocals : (rest.map fun v => v.category).sum + (13 * (names.length + 1) + 43) ≤ R.locals) (hRcells : cells + 1 ≤ R.cells) (hRslots : slots + 6 ≤ R.slots) (hlocks : meth.locks = false)
    (hx : ∀ t : State, s.vm.Alike t.vm → H.size ≤ t.heap.size → (∀ q : Nat, q < H.size → t.heap[q]? = H[q]?) → XC cls s t)
    (hf : ∀ z ∈ locs, free z.base) (hc : cells + 1 ≤ mc) (hs : slots + 6 ≤ ms) :
    W p l e R s m args below meth c H locs cells slots (vx_MQ below Qc XC args s mc ms free) (F0 m pc ls rest) := by
  intro T hT X
  have htr : e.platform.stackTraces = false := (show e.platform.stackTraces = l.stackTraces by rw [X.admits.platform]).trans hl
  have Y := vx_rebase X (R' := { frames := R.frames, locals := R.locals, cells := 1, slots := 6 }) (Nat.le_refl _) (Nat.le_refl _) hRcells hRslots
  obtain ⟨s', hA⟩ : ∃ z, z = (T.setVm s.vm).setFrames (.invoking m args :: below) := ⟨_, rfl⟩
  rw [← hA] at Y
  have hvm : s'.vm = s.vm := by rw [hA]; rfl
  have hhp : s'.heap = H := by rw [hA]; exact hT
  have hW0 : s.WarmedH s'.vm := by rw [hvm]; exact State.WarmedH.refl s
  have hat' : ∀ w ∈ vx_atS own ic cls names, w.before args s' = true := fun w hw => vx_ot_at hW0 hvm.symm (hgood w (List.mem_cons_of_mem _ (List.mem_cons_of_mem _ hw))) (hat w hw)
  have hk' : (Cond.classLink own ik cls).before args s' = true := vx_ot_at hW0 hvm.symm (hgood _ List.mem_cons_self) hk
  have hini' : (Cond.initialized cls).before args s' = true := vx_ot_at hW0 hvm.symm (hgood _ (List.mem_cons_of_mem _ List.mem_cons_self)) hini
  have hU' : vx_Zq Bundle.tN "UNASSIGNED_STACK" Bundle.steD A s' s'.heap := by rw [hhp]; exact vx_Zq.moved hW0.alike (hU.kept hS.2.1)
  have hN' : vx_Zq Bundle.tN "SUPPRESSED_SENTINEL" Bundle.listD A s' s'.heap := by rw [hhp]; exact vx_Zq.moved hW0.alike (hN.kept hS.2.1)
  have h : ∀ w ∈ Bundle.ownAtoms own ic cls names, w.before args s' = true := vx_own hat' (vx_isRefq hU'.1) (vx_isRefq hN'.1) hU'.2.word hN'.2.word
  have hown' : s'.vm.findClass own = some m.cls := by rw [hvm]; exact hown
  have hins : (Cond.instantiable cls 6).before args s' = true := h _ (by simp [Bundle.ownAtoms])
  obtain ⟨vm₁, cX, kX, hfX, hkX, -, -, X₁, st1⟩ := Y.newCold hexec (own := own) (C := cls) (index := ik) (n := 6) hown' hk' hins hini'
    (g := F0 m pc ls rest) rfl (by rw [hb]; exact d0) (Nat.le_refl _) (Nat.le_refl _)
  generalize hT1 : (T.setVm vm₁).pushCell { cls := cX, slots := kX.instanceTypes.map defaultValue, vm := .none } = T1 at X₁ st1
  have hcat : (Value.ref T.heap.size).category = 1 := rfl
  have hcellA : T1.heap[T.heap.size]? = some (freshCell cX kX) := by rw [← hT1]; exact State.heap_pushCell_size _ _
  have d3' : decode c.code (pc + 3) = .ok (.dup, 1) := by rw [hb]; exact d3
  have d4' : decode c.code (pc + 4) = .ok (.ldc is, 2) := by rw [hb]; exact d4
  have hstr' : vk_R own is text sa s' := vk_R.warm hW0 hstr
  obtain ⟨U, hsteps, hrun, hend, hW, hsame, ce, hce, hO⟩ := X₁.ctorThrowS hexec htr (own := own) (cls := cls) (names := names) (ic := ic) hown' hcls hnames h (fun x hx => nomatch hx) hfX hkX hcellA (by rw [hhp, hT]; exact Nat.le_refl _) (msg := .ref sa) rfl
    (g := { method := m, pc := pc + 6, locals := ls, stack := .ref sa :: .ref T.heap.size :: .ref T.heap.size :: rest, locked := none }) rfl hsize rfl rfl (rest := rest) rfl
    (by rw [hb]; exact d6) (by rw [hb]; exact d9) hout hRframes (by simp only [List.map_cons, List.sum_cons, hcat]; omega) hlocks
  obtain ⟨f1, f2⟩ := vx_frame hsame
  rw [hhp] at f1 f2
  have hWs : s.WarmedH U.vm := State.WarmedH.trans hW0 hW
  have hcl : s.vm.findClass cls = some ce.cls := by
    have h9 := hO.cls
    rw [hvm] at h9
    exact h9
  have hall : s.sameButNew ({ U with vm := s.vm } : State) locs mc ms := by
    subst hA
    obtain ⟨e1, e2⟩ := hsame
    rw [State.setFrames_setFrames] at e1
    have h2 : (T.setVm s.vm).sameButNew ({ U with vm := s.vm } : State) [] (0 + 1) (0 + 6) := ⟨e1, e2⟩
    have h3 := X.same.trans h2
    rw [List.append_nil] at h3
    exact h3.mono hc hs
  refine ⟨U, ?_, .threw T.heap.size, hrun, hend, Or.inr ⟨T.heap.size, rfl, cls, ce, locs, hx U hWs.alike f1 (fun q hq => f2 q hq (fun z hz => nomatch hz)), hce, hO.vm, hcl, hWs, hall, hf⟩⟩
  refine st1 _ ?_
  show Steps p.tables e below (T1.setTop { method := m, pc := pc + 3, locals := ls, stack := .ref T.heap.size :: rest, locked := none }) _
  jvm_step X₁.here [X₁.here.top, hexec, d3', Value.category]
  exact X₁.ldcString hexec (own := own) (text := text) (index := is) (a := sa) hown' hstr'.1 hstr'.2
    (g := { method := m, pc := pc + 4, locals := ls, stack := .ref T.heap.size :: .ref T.heap.size :: rest, locked := none }) rfl d4' _ hsteps
/-- 'throw new E("text")', the text by a wide index -/
theorem vx_throwSW {cc : ByteArray} {pc : Nat} (hexec : p.tables.exec = Jvm.exec) (hb : c.code = cc) (hl : l.stackTraces = false) {own cls text : String} {names : List String} {ik is ic mc ms sa : Nat} {A : Nat → Prop}
    (hown : s.vm.findClass own = some m.cls) (hcls : Bundle.fit cls = true) (hnames : ∀ n ∈ names, Bundle.fit n = true)
    (hk : (Cond.classLink own ik cls).before args s = true) (hini : (Cond.initialized cls).before args s = true) (hstr : vk_R own is text sa s) (hat : ∀ w ∈ vx_atS own ic cls names, w.before args s = true)
    (hgood : ∀ w ∈ Cond.classLink own ik cls :: Cond.initialized cls :: vx_atS own ic cls names, vx_ot w = true)
    (hU : vx_Zq Bundle.tN "UNASSIGNED_STACK" Bundle.steD A s s.heap) (hN : vx_Zq Bundle.tN "SUPPRESSED_SENTINEL" Bundle.listD A s s.heap) (hS : va_S A s.heap H locs) (hsize : ls.size = c.maxLocals)
    (d0 : decode cc pc = .ok (.new ik, 3)) (d3 : decode cc (pc + 3) = .ok (.dup, 1)) (d4 : decode cc (pc + 4) = .ok (.ldc_w is, 3)) (d7 : decode cc (pc + 7) = .ok (.invokespecial ic, 3)) (d10 : decode cc (pc + 10) = .ok (.athrow, 1))
    (hout : ∀ x ∈ c.exceptionTable.toList, covers x (pc + 10) = false)
    (hRframes : names.length + 3 < R.frames) (hRlocals : (rest.map fun v => v.category).sum + (13 * (names.length + 1) + 43) ≤ R.locals) (hRcells : cells + 1 ≤ R.cells) (hRslots : slots + 6 ≤ R.slots) (hlocks : meth.locks = false)
    (hx : ∀ t : State, s.vm.Alike t.vm → H.size ≤ t.heap.size → (∀ q : Nat, q < H.size → t.heap[q]? = H[q]?) → XC cls s t)
    (hf : ∀ z ∈ locs, free z.base) (hc : cells + 1 ≤ mc) (hs : slots + 6 ≤ ms) :
    W p l e R s m args below meth c H locs cells slots (vx_MQ below Qc XC args s mc ms free) (F0 m pc ls rest) := by
  intro T hT X
  have htr : e.platform.stackTraces = false := (show e.platform.stackTraces = l.stackTraces by rw [X.admits.platform]).trans hl
  have Y := vx_rebase X (R' := { frames := R.frames, locals := R.locals, cells := 1, slots := 6 }) (Nat.le_refl _) (Nat.le_refl _) hRcells hRslots
  obtain ⟨s', hA⟩ : ∃ z, z = (T.setVm s.vm).setFrames (.invoking m args :: below) := ⟨_, rfl⟩
  rw [← hA] at Y
  have hvm : s'.vm = s.vm := by rw [hA]; rfl
  have hhp : s'.heap = H := by rw [hA]; exact hT
  have hW0 : s.WarmedH s'.vm := by rw [hvm]; exact State.WarmedH.refl s
  have hat' : ∀ w ∈ vx_atS own ic cls names, w.before args s' = true := fun w hw => vx_ot_at hW0 hvm.symm (hgood w (List.mem_cons_of_mem _ (List.mem_cons_of_mem _ hw))) (hat w hw)
  have hk' : (Cond.classLink own ik cls).before args s' = true := vx_ot_at hW0 hvm.symm (hgood _ List.mem_cons_self) hk
  have hini' : (Cond.initialized cls).before args s' = true := vx_ot_at hW0 hvm.symm (hgood _ (List.mem_cons_of_mem _ List.mem_cons_self)) hini
  have hU' : vx_Zq Bundle.tN "UNASSIGNED_STACK" Bundle.steD A s' s'.heap := by rw [hhp]; exact vx_Zq.moved hW0.alike (hU.kept hS.2.1)
  have hN' : vx_Zq Bundle.tN "SUPPRESSED_SENTINEL" Bundle.listD A s' s'.heap := by rw [hhp]; exact vx_Zq.moved hW0.alike (hN.kept hS.2.1)
  have h : ∀ w ∈ Bundle.ownAtoms own ic cls names, w.before args s' = true := vx_own hat' (vx_isRefq hU'.1) (vx_isRefq hN'.1) hU'.2.word hN'.2.word
  have hown' : s'.vm.findClass own = some m.cls := by rw [hvm]; exact hown
  have hins : (Cond.instantiable cls 6).before args s' = true := h _ (by simp [Bundle.ownAtoms])
  obtain ⟨vm₁, cX, kX, hfX, hkX, -, -, X₁, st1⟩ := Y.newCold hexec (own := own) (C := cls) (index := ik) (n := 6) hown' hk' hins hini'
    (g := F0 m pc ls rest) rfl (by rw [hb]; exact d0) (Nat.le_refl _) (Nat.le_refl _)
  generalize hT1 : (T.setVm vm₁).pushCell { cls := cX, slots := kX.instanceTypes.map defaultValue, vm := .none } = T1 at X₁ st1
  have hcat : (Value.ref T.heap.size).category = 1 := rfl
  have hcellA : T1.heap[T.heap.size]? = some (freshCell cX kX) := by rw [← hT1]; exact State.heap_pushCell_size _ _
  have d3' : decode c.code (pc + 3) = .ok (.dup, 1) := by rw [hb]; exact d3
  have d4' : decode c.code (pc + 4) = .ok (.ldc_w is, 3) := by rw [hb]; exact d4
  have hstr' : vk_R own is text sa s' := vk_R.warm hW0 hstr
  obtain ⟨U, hsteps, hrun, hend, hW, hsame, ce, hce, hO⟩ := X₁.ctorThrowS hexec htr (own := own) (cls := cls) (names := names) (ic := ic) hown' hcls hnames h (fun x hx => nomatch hx) hfX hkX hcellA (by rw [hhp, hT]; exact Nat.le_refl _) (msg := .ref sa) rfl
    (g := { method := m, pc := pc + 7, locals := ls, stack := .ref sa :: .ref T.heap.size :: .ref T.heap.size :: rest, locked := none }) rfl hsize rfl rfl (rest := rest) rfl
    (by rw [hb]; exact d7) (by rw [hb]; exact d10) hout hRframes (by simp only [List.map_cons, List.sum_cons, hcat]; omega) hlocks
  obtain ⟨f1, f2⟩ := vx_frame hsame
  rw [hhp] at f1 f2
  have hWs : s.WarmedH U.vm := State.WarmedH.trans hW0 hW
  have hcl : s.vm.findClass cls = some ce.cls := by
    have h9 := hO.cls
    rw [hvm] at h9
    exact h9
  have hall : s.sameButNew ({ U with vm := s.vm } : State) locs mc ms := by
    subst hA
    obtain ⟨e1, e2⟩ := hsame
    rw [State.setFrames_setFrames] at e1
    have h2 : (T.setVm s.vm).sameButNew ({ U with vm := s.vm } : State) [] (0 + 1) (0 + 6) := ⟨e1, e2⟩
    have h3 := X.same.trans h2
    rw [List.append_nil] at h3
    exact h3.mono hc hs
  refine ⟨U, ?_, .threw T.heap.size, hrun, hend, Or.inr ⟨T.heap.size, rfl, cls, ce, locs, hx U hWs.alike f1 (fun q hq => f2 q hq (fun z hz => nomatch hz)), hce, hO.vm, hcl, hWs, hall, hf⟩⟩
  refine st1 _ ?_
  show Steps p.tables e below (T1.setTop { method := m, pc := pc + 3, locals := ls, stack := .ref T.heap.size :: rest, locked := none }) _
  jvm_step X₁.here [X₁.here.top, hexec, d3', Value.category]
  exact X₁.ldcStringW hexec (own := own) (text := text) (index := is) (a := sa) hown' hstr'.1 hstr'.2
    (g := { method := m, pc := pc + 4, locals := ls, stack := .ref T.heap.size :: .ref T.heap.size :: rest, locked := none }) rfl d4' _ hsteps
end Ends
section Bodies
variable {l : Launch}
theorem vx_ofW {y : MethodName} {ws ws' : List Cond} {rm : Room} {Pc : Array Value → State → Prop} {Qc : Array Value → State → Outcome → State → Prop} {XC : String → State → State → Prop} {mc ms : Nat} {free : Addr → Prop} {cc : ByteArray} {maxL : Nat} {ret : Option FieldType}
    (hy : plainName y.cls = true) (hw : ws = Cond.code y cc maxL ret :: ws')
    (body : ∀ p e s m args below meth c s₁, BodyLoose p l y (headSpec ws rm) cc maxL ret e s m args below meth c s₁ → c.maxLocals = maxL → (∀ x ∈ c.exceptionTable.toList, False) → Pc args s →
      W p l e (headSpec ws rm).room s m args below meth c s.heap [] 0 0 (vx_MQ below Qc XC args s mc ms free) (entryFrame m args maxL)) : vx_Met l y ws rm Pc Qc XC mc ms free := by
  refine MetFree.of_bodyS (code := cc) (maxLocals := maxL) (ret := ret) hy ?_ ?_
  · intro args s m h hn
    obtain ⟨meth, c, h1, h2, h3, h4, h5, h6, -, -⟩ := Cond.code_spec hn (atoms_spec (ws := ws) h _ (by rw [hw]; exact List.mem_cons_self))
    exact ⟨meth, c, h1, h2, h3, h4, h5, h6⟩
  · intro p e s m args below meth c s₁ B hml hP _
    have hh0 : s₁.heap = s.heap := by rw [B.state]; rfl
    have ht : ∀ x ∈ c.exceptionTable.toList, False := by
      obtain ⟨meth9, c9, h1, h2, -, -, -, -, h7, -⟩ := Cond.code_spec B.named (atoms_spec (ws := ws) B.pre _ (by rw [hw]; exact List.mem_cons_self))
      cases Option.some.inj (h1.symm.trans B.method)
      cases Option.some.inj (h2.symm.trans (Stand.of_body B).code)
      intro x hx
      rw [Array.isEmpty_iff.mp h7] at hx
      cases hx
    obtain ⟨t, a1, o, b1, b2, b3⟩ := body p e s m args below meth c s₁ B hml ht hP s₁ hh0 (Stand.of_body B)
    exact ⟨t, o, a1, b1, b2, b3⟩
/-- the table of a body with handlers -/
theorem vx_table {p : Program} {x y : MethodName} {S : Spec} {cc bytes : ByteArray} {maxL maxL' : Nat} {ret ret' : Option FieldType} {e : Env} {s s₁ : State} {m : MethodId} {args : Array Value} {below : List Frame} {meth : Method} {c : Code} {hh : List (Nat × Nat × Nat × Nat)}
    (B : BodyLoose p l y S cc maxL ret e s m args below meth c s₁) (h : (Cond.codeWith y bytes maxL' ret' hh).before args s = true) : c.exceptionTable.toList = tableOf hh := by
  obtain ⟨m9, meth9, c9, hn9, h1, h2, -, -, h6, -⟩ := Cond.codeWith_spec h
  cases Option.some.inj (hn9.symm.trans B.named)
  cases Option.some.inj (h1.symm.trans B.method)
  cases Option.some.inj (h2.symm.trans (Stand.of_body B).code)
  rw [← h6, table_eq]
end Bodies
end VXA
/-! ===== END ===== -/
/-! ===== BEGIN a static call of a method with an exception table ===== -/
section VXS
variable {p : Program} {l : Launch} {e : Env} {R : Room} {s : State} {m : MethodId} {args : Array Value} {below : List Frame} {meth : Method} {c : Code} {T : State} {H : Heap} {locs : List Loc} {cells slots : Nat}
abbrev vx_CSW (R : Room) (s : State) (args : Array Value) (own : String) (index : Nat) (y : MethodName) (bytes : ByteArray) (maxL : Nat) (ret : Option FieldType) (hh : List (Nat × Nat × Nat × Nat)) (ws : List Cond) (rm : Room) (mc ms n : Nat) : Prop :=
  (rm.cells = mc ∧ rm.slots = ms ∧ rm.frames + 1 ≤ R.frames ∧ 8 + (maxL + 11) + rm.locals ≤ R.locals ∧ (∀ w ∈ ws, ∀ (a' : Array Value) (U : State), s.WarmedH U.vm → w.before a' U = true) ∧ Cond.codeWith y bytes maxL ret hh ∈ ws) ∧
  (Cond.codeWith y bytes maxL ret hh).before args s = true ∧ (Cond.initialized y.cls).before args s = true ∧ (y.cls ≠ "java/lang/invoke/MethodHandle" ∧ y.cls ≠ "java/lang/invoke/VarHandle") ∧
  (∀ sig, parseMethodDescriptor y.desc = some sig → n = sig.parameters.length) ∧ (Cond.methodLink own index y).before args s = true ∧ (Cond.static y).before args s = true
theorem vx_cwSW {own : String} {index maxL mc ms : Nat} {y : MethodName} {bytes : ByteArray} {ret : Option FieldType} {hh : List (Nat × Nat × Nat × Nat)} {Ts ws ws' : List Cond} {rm : Room} (n : Nat) (ht : ∀ w ∈ Ts, w.before args s = true) (hT : GoodIn Ts (va_wsS own index y ws)) (hw : ws = Cond.codeWith y bytes maxL ret hh :: ws') (hrc : rm.cells = mc) (hrs : rm.slots = ms)
    (hd : y.cls ≠ "java/lang/invoke/MethodHandle" ∧ y.cls ≠ "java/lang/invoke/VarHandle" ∧ (parseMethodDescriptor y.desc).map (fun d => d.parameters.length) = some n) (hR : rm.frames + 1 ≤ R.frames ∧ 8 + (maxL + 11) + rm.locals ≤ R.locals) :
    vx_CSW R s args own index y bytes maxL ret hh ws rm mc ms n := by
  have ok : ∀ w ∈ va_wsS own index y ws, w.before args s = true := fun w h => ht w (hT w h).1
  have hG : GoodIn Ts ws := fun w h => hT w (by unfold va_wsS; exact List.mem_append_right _ h)
  have hc : Cond.codeWith y bytes maxL ret hh ∈ ws := by rw [hw]; exact List.mem_cons_self
  refine ⟨⟨hrc, hrs, hR.1, hR.2, pay_in ht hG, hc⟩, ht _ (hG _ hc).1, ok _ (by simp [va_wsS]), ⟨hd.1, hd.2.1⟩, fun sig h => ?_, ok _ (by simp [va_wsS]), ok _ (by simp [va_wsS])⟩
  have h2 := hd.2.2
  rw [h] at h2
  exact (Option.some.inj h2).symm
theorem vx_callSW (X : Stand p l e R s m args below meth c T locs cells slots) (hexec : p.tables.exec = Jvm.exec) {own : String} {index : Nat} {y : MethodName} {bytes : ByteArray} {maxL : Nat} {ret : Option FieldType} {hh : List (Nat × Nat × Nat × Nat)}
    (hown : s.vm.findClass own = some m.cls) (hlink : (Cond.methodLink own index y).before args s = true) (hstat : (Cond.static y).before args s = true) (hinit : (Cond.initialized y.cls).before args s = true)
    (hcode : (Cond.codeWith y bytes maxL ret hh).before args s = true) (hy : y.cls ≠ "java/lang/invoke/MethodHandle" ∧ y.cls ≠ "java/lang/invoke/VarHandle")
    {W9 : Nat} {Pre : Pt → Array Value → Prop} {Post : Pt → Array Value → Option Value → Pt → Prop} (hK : Back l R p e below s args y 3 W9 Pre Post)
    {g : JFrame} (hg : g.method = m) (hsize : g.locals.size = c.maxLocals) {argsL rest : List Value} (hlen : ∀ sig, parseMethodDescriptor y.desc = some sig → argsL.length = sig.parameters.length)
    (hstack : g.stack = argsL.reverse ++ rest) (hW : 2 * g.monitorRoom + (rest.map fun v => v.category).sum ≤ W9) (hdg : decode c.code g.pc = .ok (.invokestatic index, 3))
    (hpre : ∀ vm₁, s.WarmedH vm₁ → Pre ⟨T.setVm vm₁, locs, cells, slots⟩ argsL.toArray) :
    ∃ (v : Option Value) (vm₁ : Vm) (B : Pt), s.WarmedH vm₁ ∧ Stand p l e R s m args below meth c B.U B.locs B.cells B.slots ∧ Post ⟨T.setVm vm₁, locs, cells, slots⟩ argsL.toArray v B ∧
      ∀ target, Steps p.tables e below (B.U.setTop { g with pc := g.pc + 3, stack := v.toList ++ rest }) target → Steps p.tables e below (T.setTop g) target := by
  obtain ⟨mk, methM, cM, hnamed, hmethM, -, -, -, -, -, -, hsigM⟩ := Cond.codeWith_spec hcode
  have hstatic : methM.isStatic = true := Cond.static_spec hnamed hmethM hstat
  obtain ⟨kP, hkP, -⟩ := className_of_methodNamed hnamed
  have hinitP : kP.init = .initialized := Cond.initialized_spec (findClass_of_methodNamed hnamed) hkP hinit
  obtain ⟨vm₁, X₁, hstep₁⟩ := X.invokestatic hexec hown hlink hnamed hmethM hstatic hkP hinitP hy (g := g) hg (argsL := argsL) (rest := rest) (hlen _ hsigM) hstack hdg
  obtain ⟨v, B, X', hpost, hsteps⟩ := hK m meth c ⟨T.setVm vm₁, locs, cells, slots⟩ { g with stack := rest } (.invokestatic index) mk argsL.toArray X₁ hg hsize hdg hW (X₁.named hnamed) (hpre vm₁ X₁.warmed)
  exact ⟨v, vm₁, B, X₁.warmed, X', hpost, fun target h => hstep₁ _ fun acts => by rw [doInvoke_state]; exact hsteps.trans h⟩
theorem vx_runSW {y : MethodName} {bytes cc : ByteArray} {maxL nL mc ms n index : Nat} {ret : Option FieldType} {hh : List (Nat × Nat × Nat × Nat)} {ws : List Cond} {rm : Room} {Pc : Array Value → State → Prop} {Qc : Array Value → State → Outcome → State → Prop} {free : Addr → Prop} {Ts : List Cond} {own : String} {As rest : List Value} {g : JFrame}
    (S : CallFix p m c cc nL s args Ts own) (hM : Met l y ws rm Pc Qc mc ms free) (cw : vx_CSW R s args own index y bytes maxL ret hh ws rm mc ms n) (hp : PreS s H Pc As)
    (hg : g.method = m) (hn : As.length = n) (hsize : g.locals.size = nL) (hstack : g.stack = As.reverse ++ rest) (hW : 2 * g.monitorRoom + (rest.map fun v => v.category).sum ≤ 8) (hdg : decode cc g.pc = .ok (.invokestatic index, 3)) (hf : cells + mc ≤ R.cells ∧ slots + ms ≤ R.slots) :
    va_Run p l e R s m args below meth c H locs cells slots mc ms g rest (Qc As.toArray) (free) := by
  obtain ⟨⟨hrc, hrs, hfr, hlo, hws, hcw⟩, hcode, hini, hy, hlen, hl, hstt⟩ := cw
  have hK : Back l R p e below s args y 3 8 (PreOf R mc ms Pc) (PostOf Qc mc ms free) := va_backW (hh := hh) (bytes := bytes) (maxL := maxL) (ret := ret) hM hp.1 hrc hrs hfr hlo hws hcw (fun a' U hW => word_at hW (Or.inl (by first | rfl | simp [Cond.onTables, Cond.keeps, Cond.steady])) hini)
  obtain ⟨hx, hb, hml, ho, -⟩ := S
  intro T hT X
  obtain ⟨v, vm₁, ⟨U', l2, c2, s2⟩, hW₁, X', ⟨g', mk, t, L, e1, e2, hq, h1, hL, h2, h3⟩, st⟩ := vx_callSW X hx (hh := hh) (bytes := bytes) (maxL := maxL) (ret := ret) ho hl hstt hini hcode hy hK hg (hsize.trans hml.symm) (argsL := As) (rest := rest) (fun sig h => hn.trans (hlen sig h)) hstack hW (by rw [hb]; exact hdg)
    (fun vm₁ hW₁ => ⟨hf.1, hf.2, hp.2 (T.setVm vm₁) hT hW₁⟩)
  dsimp only [Pt.U, Pt.locs, Pt.cells, Pt.slots] at X' e1 e2 h1 h2 h3 st
  subst h1; subst h2; subst h3
  exact ⟨v, (T.setVm vm₁).calling g' mk As.toArray, t, U', L, hT, X', hL, e1, e2, hq, st⟩
/-- not caught here, past rows that name other classes: it goes on to the caller -/
theorem vx_outP {p : Program} {l : Launch} {e : Env} {R : Room} {s : State} {m : MethodId} {args : Array Value} {below : List Frame} {meth : Method} {c : Code} {H : Heap} {locs : List Loc} {cells slots : Nat} {free : Addr → Prop} {ls : Array Slot} {rest : List Value} {Qc : Array Value → State → Outcome → State → Prop} {XC : String → State → State → Prop}
    {pc : Nat} {own E : String} {ce : Cell} {q : Addr} {mc ms : Nat} (hown : s.vm.findClass own = some m.cls) (hlocks : meth.locks = false)
    (hpass : ∀ z ∈ c.exceptionTable.toList, covers z pc = false ∨ (z.catchType ≠ 0 ∧ ∃ nm : String, (Cond.classLink own z.catchType nm).before args s = true ∧ va_Nc E nm s)) (hcell : H[q]? = some ce) (hv : ce.vm = .none) (hcl : s.vm.findClass E = some ce.cls)
    (hx : ∀ t : State, t.heap = H → s.vm.Alike t.vm → XC E s t) (hf : ∀ z ∈ locs, free z.base) (hc : cells ≤ mc) (hs : slots ≤ ms) :
    vx_W p l e R s m args below meth c H locs cells slots (vx_MQ below Qc XC args s mc ms free) (F0 m pc ls rest) q := by
  intro T hT X
  have hpl : e.platform.magicAccessors = ({} : Platform).magicAccessors := by rw [X.admits.platform]
  obtain ⟨vm', hW', X', st⟩ := X.outThrough hlocks q (g := F0 m pc ls rest) rfl rfl rfl (cell := ce) (by rw [hT]; exact hcell) (by rw [hv]; rfl)
    (by obtain ⟨k9, h9, -⟩ := Vm.findClass_spec hcl; exact ⟨k9, h9⟩) (fun z hz => by
      rcases hpass z hz with h | ⟨hz0, nm, hl1, hn1⟩
      · exact Or.inl h
      · obtain ⟨c6, hc6, hcl6⟩ := Cond.classLink_spec hown hl1 e.platform hpl
        obtain ⟨a8, b8, h1, h2, h3⟩ := hn1
        cases Option.some.inj (h1.symm.trans hcl)
        cases Option.some.inj (h2.symm.trans hc6)
        exact Or.inr ⟨hz0, _, hcl6, h3⟩)
  obtain ⟨g₀, hfr⟩ := X'.frames_eq
  have hcell9 : ((T.setVm vm').setFrames (.throwing q :: below)).heap[q]? = some ce := by
    show T.heap[q]? = some ce
    rw [hT]; exact hcell
  have hend : Ended ((T.setVm vm').setFrames (.throwing q :: below)) below (.threw q) := State.frames_setFrames _ (State.cur_lt_of_frames hfr)
  refine ⟨(T.setVm vm').setFrames (.throwing q :: below), ?_, .threw q, X'.here.running, hend, Or.inr ⟨q, rfl, E, ce, locs, hx _ hT (X'.ends _).1.alike, hcell9, hv, hcl, (X'.ends _).1, (X'.ends _).2.mono hc hs, hf⟩⟩
  rw [X.pushThrowing_eq]
  exact st
/-- a thing of a world lies in the heap -/
theorem vx_lt {D : va_G} {cl : List vw_C} {ws : va_W} {H1 : Heap} (h : va_P D cl ws H1) {k : Nat} {q : Nat × va_E} (hk : ws[k]? = some q) : q.1 < H1.size := (h k q hk).lt
end VXS
/-! ===== END ===== -/
/-! ===== BEGIN methods with a table of their own: called by a name, returning or throwing ===== -/
section VXH
/-! vx_backW, vx_callVX, vx_callSX, vx_callVW, vx_runVW, vx_runVX, vx_runSX, vx_ofWH follow the same proofs as their sisters above (Free/Laws.lean, Shelf42/LK1.lean); vx_outP calls Shelf42/NT130.lean (outThrough). -/
section
variable {l : Launch} {R : Room} {p : Program} {e : Env} {below : List Frame} {s : State} {sargs : Array Value} {y : MethodName} {len W9 : Nat}
theorem vx_backW {ws : List Cond} {rm : Room} {Pc : Array Value → State → Prop} {Qc : Array Value → State → Outcome → State → Prop} {XC : String → State → State → Prop} {mc ms : Nat} {free : Addr → Prop} {bytes : ByteArray} {maxL : Nat} {ret : Option FieldType} {hh : List (Nat × Nat × Nat × Nat)}
    (hM : vx_Met l y ws rm Pc Qc XC mc ms free) (hblind : FrameBlind Pc) (hrc : rm.cells = mc) (hrs : rm.slots = ms)
    (hframes : rm.frames + 1 ≤ R.frames) (hlocals : W9 + (maxL + 11) + rm.locals ≤ R.locals)
    (hws : ∀ w ∈ ws, ∀ a' U, s.WarmedH U.vm → w.before a' U = true) (hcode : Cond.codeWith y bytes maxL ret hh ∈ ws) (hinit : ∀ a' U, s.WarmedH U.vm → (Cond.initialized y.cls).before a' U = true) :
    vx_Back l R p e below s sargs y len W9 (PreOf R mc ms Pc) (PostOf Qc mc ms free) (vx_Post XC mc ms free) := by
  intro m meth c A g ig mk a X hg hsize hdg hW hn hp
  have h1 : (headSpec ws rm).pre.before a A.U = true := atoms_intro fun w hw => hws w hw _ _ X.warmed
  have h2 : (Cond.codeWith y bytes maxL ret hh).before a A.U = true := hws _ hcode _ _ X.warmed
  have h3 : (Cond.initialized y.cls).before a A.U = true := hinit _ _ X.warmed
  have h4 : A.cells + (headSpec ws rm).room.cells ≤ R.cells := by rw [show (headSpec ws rm).room.cells = mc from hrc]; exact hp.1
  have h5 : A.slots + (headSpec ws rm).room.slots ≤ R.slots := by rw [show (headSpec ws rm).room.slots = ms from hrs]; exact hp.2.1
  have hPc : Pc a (A.U.calling g mk a) := hblind _ _ _ _ hp.2.2
  obtain ⟨U, Ls, c0, s0⟩ := A
  dsimp only [Pt.U, Pt.locs, Pt.cells, Pt.slots] at h1 h2 h3 h4 h5 X hn hPc ⊢
  obtain ⟨m9, methY, cY, hn9, hmY, hcY, -, hlY, -⟩ := Cond.codeWith_spec h2
  cases Option.some.inj (hn9.symm.trans hn)
  obtain ⟨kY, hkY, -⟩ := className_of_methodNamed hn
  have hinitY : kY.init = .initialized := Cond.initialized_spec (findClass_of_methodNamed hn) hkY h3
  have h : At U g.method c below := by rw [hg]; exact X.here
  have hlocals9 : W9 + (maxL + 11) + (headSpec ws rm).room.locals ≤ R.locals := hlocals
  have happ : (headSpec ws rm).appliesLoose y e.platform (U.calling g mk a) = true :=
    Spec.appliesLoose_calling (g := g) h hdg hn hkY hinitY
      (X.room_calling (g := g) (R' := (headSpec ws rm).room) hsize hmY hcY hframes (by rw [hlY]; omega) h4 h5) h1
  obtain ⟨mid, hmid⟩ := h.above
  have hfr : (U.setTop g).frames = (.java g :: mid) ++ below := by rw [State.frames_setTop' g h.top, hmid]; rfl
  obtain ⟨o, s₂, hsteps, -, hend, hq⟩ := Steps.callFree hM p X.admits X.cas X.clock (acts := []) hfr happ hPc trivial
  have hq' : vx_Q Qc XC mc ms free a (U.calling g mk a) o s₂ := hq
  rw [State.frames_setTop' g h.top] at hend
  obtain ⟨g₀, hg0⟩ := Option.isSome_iff_exists.mp h.top
  obtain ⟨r, hr⟩ := State.topJava?_eq_some.mp hg0
  have hr' : (({ U with heap := s₂.heap, slotsUsed := s₂.slotsUsed } : State).setVm s₂.vm).frames = .java g₀ :: r := hr
  rcases hq' with ⟨hqc, L, hfe, hL⟩ | ⟨q, rfl, E, ce, L, hx, hce, hcv, hcl, hW₂, hsm, hL⟩
  · obtain ⟨⟨v, rfl⟩, hW₂, e2, q2, q3, q4, q5, q6⟩ := id hfe
    have e3 : s₂ = ({ (U.calling g mk a).setFrames s₂.frames with heap := s₂.heap, slotsUsed := s₂.slotsUsed } : State).setVm s₂.vm := by
      have : s₂ = ({ s₂ with vm := (U.calling g mk a).vm } : State).setVm s₂.vm := rfl
      rw [e2] at this
      exact this
    obtain ⟨c₂, i₂, len₂, hc₂, hd₂, hf₂⟩ := hend
    have hW' : U.WarmedH s₂.vm := hW₂
    have hcc : c₂ = c := by
      have h1 : s₂.code? g.method = U.code? g.method := by
        rw [State.code?_eq, State.code?_eq, hW'.alike.method?]
      exact Option.some.inj (hc₂.symm.trans (h1.trans h.code))
    subst hcc
    have hlen : len₂ = len := by rw [hdg] at hd₂; cases hd₂; rfl
    subst hlen
    have hs₂ : s₂ = (({ U with heap := s₂.heap, slotsUsed := s₂.slotsUsed } : State).setVm s₂.vm).setTop { g with pc := g.pc + len₂, stack := v.toList ++ g.stack } := by
      refine e3.trans ?_
      rw [hf₂, State.calling_eq h.top, State.setFrames_setFrames, State.setTop_of_frames _ hr', hr]
      rfl
    have hsame : U.sameButNew ({ U with heap := s₂.heap, slotsUsed := s₂.slotsUsed } : State) L mc ms := by
      refine ⟨?_, q2, q3, q4, q5, q6⟩
      obtain ⟨t, ht, -⟩ := State.frames_cons hr
      show ({ U with heap := s₂.heap, slotsUsed := s₂.slotsUsed } : State) = { U.setFrames U.frames with heap := s₂.heap, slotsUsed := s₂.slotsUsed }
      rw [State.setFrames_self ht]
    subst hg
    refine Or.inl ⟨v, ⟨(({ U with heap := s₂.heap, slotsUsed := s₂.slotsUsed } : State).setVm s₂.vm), Ls ++ L, c0 + mc, s0 + ms⟩,
      ⟨X.admits, X.cas, X.clock, X.frames, X.room, X.hears, X.method, X.code, (X.here.setHeapUsed s₂.heap s₂.slotsUsed).setVm hW'.alike, X.tail, State.WarmedH.trans X.warmed hW', X.limits, X.bytes, X.same.trans (hsame.setVm s.vm)⟩,
      ⟨g, mk, s₂, L, rfl, rfl, hqc, rfl, hL, rfl, rfl⟩, ?_⟩
    show Steps p.tables e below _ ((({ U with heap := s₂.heap, slotsUsed := s₂.slotsUsed } : State).setVm s₂.vm).setTop { g with pc := g.pc + len₂, stack := v.toList ++ g.stack })
    rw [← hs₂]
    exact hsteps
  · obtain ⟨e2, q2, q3, q4, q5, q6⟩ := id hsm
    have e3 : s₂ = ({ (U.calling g mk a).setFrames s₂.frames with heap := s₂.heap, slotsUsed := s₂.slotsUsed } : State).setVm s₂.vm := by
      have : s₂ = ({ s₂ with vm := (U.calling g mk a).vm } : State).setVm s₂.vm := rfl
      rw [e2] at this
      exact this
    have hf₂ : s₂.frames = .throwing q :: .java g :: U.frames.tail := hend
    have hW' : U.WarmedH s₂.vm := hW₂
    have hs₂ : s₂ = ((({ U with heap := s₂.heap, slotsUsed := s₂.slotsUsed } : State).setVm s₂.vm).setTop g).pushFrame (.throwing q) := by
      refine e3.trans ?_
      rw [hf₂, State.calling_eq h.top, State.setFrames_setFrames, State.pushFrame, State.frames_setTop _ hr', State.setTop_of_frames _ hr', State.setFrames_setFrames, hr]
      rfl
    have hsame : U.sameButNew ({ U with heap := s₂.heap, slotsUsed := s₂.slotsUsed } : State) L mc ms := by
      refine ⟨?_, q2, q3, q4, q5, q6⟩
      obtain ⟨t, ht, -⟩ := State.frames_cons hr
      show ({ U with heap := s₂.heap, slotsUsed := s₂.slotsUsed } : State) = { U.setFrames U.frames with heap := s₂.heap, slotsUsed := s₂.slotsUsed }
      rw [State.setFrames_self ht]
    subst hg
    refine Or.inr ⟨q, ⟨(({ U with heap := s₂.heap, slotsUsed := s₂.slotsUsed } : State).setVm s₂.vm), Ls ++ L, c0 + mc, s0 + ms⟩,
      ⟨X.admits, X.cas, X.clock, X.frames, X.room, X.hears, X.method, X.code, (X.here.setHeapUsed s₂.heap s₂.slotsUsed).setVm hW'.alike, X.tail, State.WarmedH.trans X.warmed hW', X.limits, X.bytes, X.same.trans (hsame.setVm s.vm)⟩,
      ⟨g, mk, s₂, L, E, ce, rfl, rfl, hx, hce, hcv, hcl, rfl, hL, rfl, rfl⟩, ?_⟩
    show Steps p.tables e below _ (((({ U with heap := s₂.heap, slotsUsed := s₂.slotsUsed } : State).setVm s₂.vm).setTop g).pushFrame (.throwing q))
    rw [← hs₂]
    exact hsteps
end
variable {p : Program} {l : Launch} {e : Env} {R : Room} {s : State} {m : MethodId} {args : Array Value} {below : List Frame} {meth : Method} {c : Code} {T : State} {H : Heap} {locs : List Loc} {cells slots : Nat}
theorem vx_callVX (X : Stand p l e R s m args below meth c T locs cells slots) (hexec : p.tables.exec = Jvm.exec) {own C : String} {index : Nat} {y : MethodName} {bytes : ByteArray} {maxL : Nat} {ret : Option FieldType} {hh : List (Nat × Nat × Nat × Nat)}
    (hown : s.vm.findClass own = some m.cls) (hlink : (Cond.methodLink own index y).before args s = true) (hinst : (Cond.instanceMethod y).before args s = true) (hsel : (Cond.selects C y y).before args s = true)
    (hcode : (Cond.codeWith y bytes maxL ret hh).before args s = true) (hy : y.cls ≠ "java/lang/invoke/MethodHandle" ∧ y.cls ≠ "java/lang/invoke/VarHandle")
    {W9 : Nat} {Pre : Pt → Array Value → Prop} {Post : Pt → Array Value → Option Value → Pt → Prop} {PostX : Pt → Array Value → Addr → Pt → Prop} (hK : vx_Back l R p e below s args y 3 W9 Pre Post PostX)
    {b : Addr} {cellB : Cell} (hcell : T.heap[b]? = some cellB) (hobj : cellB.vm.isStatics = false) (hcls : s.vm.findClass C = some cellB.cls)
    {g : JFrame} (hg : g.method = m) (hsize : g.locals.size = c.maxLocals) {argsL rest : List Value} (hlen : ∀ sig, parseMethodDescriptor y.desc = some sig → argsL.length = sig.parameters.length)
    (hstack : g.stack = argsL.reverse ++ .ref b :: rest) (hW : 2 * g.monitorRoom + (rest.map fun v => v.category).sum ≤ W9) (hdg : decode c.code g.pc = .ok (.invokevirtual index, 3))
    (hpre : ∀ vm₁, s.WarmedH vm₁ → Pre ⟨T.setVm vm₁, locs, cells, slots⟩ (Value.ref b :: argsL).toArray) :
    (∃ (v : Option Value) (vm₁ : Vm) (B : Pt), s.WarmedH vm₁ ∧ Stand p l e R s m args below meth c B.U B.locs B.cells B.slots ∧ Post ⟨T.setVm vm₁, locs, cells, slots⟩ (Value.ref b :: argsL).toArray v B ∧
      ∀ target, Steps p.tables e below (B.U.setTop { g with pc := g.pc + 3, stack := v.toList ++ rest }) target → Steps p.tables e below (T.setTop g) target) ∨
    (∃ (q : Addr) (vm₁ : Vm) (B : Pt), s.WarmedH vm₁ ∧ Stand p l e R s m args below meth c B.U B.locs B.cells B.slots ∧ PostX ⟨T.setVm vm₁, locs, cells, slots⟩ (Value.ref b :: argsL).toArray q B ∧
      Steps p.tables e below (T.setTop g) ((B.U.setTop { g with stack := rest }).pushFrame (.throwing q))) := by
  obtain ⟨mk, methM, hnamed, hmethM, hstM, habM⟩ := Cond.instanceMethod_spec hinst
  obtain ⟨m8, methM', cM, hn8, hmethM', -, -, -, -, -, -, hsigM⟩ := Cond.codeWith_spec hcode
  cases Option.some.inj (hn8.symm.trans hnamed)
  cases hmethM.symm.trans hmethM'
  obtain ⟨c2, r2, m2, q1, q2, q3, q4, kP, hkP, hkPi⟩ := Cond.selects_spec hsel
  cases hcls.symm.trans q1
  cases (State.methodFound?_of_named hnamed hy).symm.trans q2
  cases hnamed.symm.trans q3
  have hselP : selectMethod e.platform s.vm cellB.cls mk = .method mk := by rw [Launch.admits_selectMethod X.admits]; exact q4
  obtain ⟨vm₁, X₁, hstep₁⟩ := X.invokevirtual hexec hown hlink hnamed hmethM hstM hkP hkPi hy (a := b) (cell := cellB) hcell
    (fun z h => by rw [h] at hobj; cases hobj) hselP hmethM habM hkP hkPi (g := g) hg (argsL := argsL) (rest := rest) (hlen _ hsigM) hstack hdg
  rcases hK m meth c ⟨T.setVm vm₁, locs, cells, slots⟩ { g with stack := rest } (.invokevirtual index) mk (Value.ref b :: argsL).toArray X₁ hg hsize hdg hW (X₁.named hnamed) (hpre vm₁ X₁.warmed) with ⟨v, B, X', hpost, hsteps⟩ | ⟨q, B, X', hpost, hsteps⟩
  · exact Or.inl ⟨v, vm₁, B, X₁.warmed, X', hpost, fun target h => hstep₁ _ fun acts => by rw [doInvoke_state]; exact hsteps.trans h⟩
  · exact Or.inr ⟨q, vm₁, B, X₁.warmed, X', hpost, hstep₁ _ fun acts => by rw [doInvoke_state]; exact hsteps⟩
theorem vx_callSX (X : Stand p l e R s m args below meth c T locs cells slots) (hexec : p.tables.exec = Jvm.exec) {own : String} {index : Nat} {y : MethodName} {bytes : ByteArray} {maxL : Nat} {ret : Option FieldType} {hh : List (Nat × Nat × Nat × Nat)}
    (hown : s.vm.findClass own = some m.cls) (hlink : (Cond.methodLink own index y).before args s = true) (hstat : (Cond.static y).before args s = true) (hinit : (Cond.initialized y.cls).before args s = true)
    (hcode : (Cond.codeWith y bytes maxL ret hh).before args s = true) (hy : y.cls ≠ "java/lang/invoke/MethodHandle" ∧ y.cls ≠ "java/lang/invoke/VarHandle")
    {W9 : Nat} {Pre : Pt → Array Value → Prop} {Post : Pt → Array Value → Option Value → Pt → Prop} {PostX : Pt → Array Value → Addr → Pt → Prop} (hK : vx_Back l R p e below s args y 3 W9 Pre Post PostX)
    {g : JFrame} (hg : g.method = m) (hsize : g.locals.size = c.maxLocals) {argsL rest : List Value} (hlen : ∀ sig, parseMethodDescriptor y.desc = some sig → argsL.length = sig.parameters.length)
    (hstack : g.stack = argsL.reverse ++ rest) (hW : 2 * g.monitorRoom + (rest.map fun v => v.category).sum ≤ W9) (hdg : decode c.code g.pc = .ok (.invokestatic index, 3))
    (hpre : ∀ vm₁, s.WarmedH vm₁ → Pre ⟨T.setVm vm₁, locs, cells, slots⟩ argsL.toArray) :
    (∃ (v : Option Value) (vm₁ : Vm) (B : Pt), s.WarmedH vm₁ ∧ Stand p l e R s m args below meth c B.U B.locs B.cells B.slots ∧ Post ⟨T.setVm vm₁, locs, cells, slots⟩ argsL.toArray v B ∧
      ∀ target, Steps p.tables e below (B.U.setTop { g with pc := g.pc + 3, stack := v.toList ++ rest }) target → Steps p.tables e below (T.setTop g) target) ∨
    (∃ (q : Addr) (vm₁ : Vm) (B : Pt), s.WarmedH vm₁ ∧ Stand p l e R s m args below meth c B.U B.locs B.cells B.slots ∧ PostX ⟨T.setVm vm₁, locs, cells, slots⟩ argsL.toArray q B ∧
      Steps p.tables e below (T.setTop g) ((B.U.setTop { g with stack := rest }).pushFrame (.throwing q))) := by
  obtain ⟨mk, methM, cM, hnamed, hmethM, -, -, -, -, -, -, hsigM⟩ := Cond.codeWith_spec hcode
  have hstatic : methM.isStatic = true := Cond.static_spec hnamed hmethM hstat
  obtain ⟨kP, hkP, -⟩ := className_of_methodNamed hnamed
  have hinitP : kP.init = .initialized := Cond.initialized_spec (findClass_of_methodNamed hnamed) hkP hinit
  obtain ⟨vm₁, X₁, hstep₁⟩ := X.invokestatic hexec hown hlink hnamed hmethM hstatic hkP hinitP hy (g := g) hg (argsL := argsL) (rest := rest) (hlen _ hsigM) hstack hdg
  rcases hK m meth c ⟨T.setVm vm₁, locs, cells, slots⟩ { g with stack := rest } (.invokestatic index) mk argsL.toArray X₁ hg hsize hdg hW (X₁.named hnamed) (hpre vm₁ X₁.warmed) with ⟨v, B, X', hpost, hsteps⟩ | ⟨q, B, X', hpost, hsteps⟩
  · exact Or.inl ⟨v, vm₁, B, X₁.warmed, X', hpost, fun target h => hstep₁ _ fun acts => by rw [doInvoke_state]; exact hsteps.trans h⟩
  · exact Or.inr ⟨q, vm₁, B, X₁.warmed, X', hpost, hstep₁ _ fun acts => by rw [doInvoke_state]; exact hsteps⟩
theorem vx_callVW (X : Stand p l e R s m args below meth c T locs cells slots) (hexec : p.tables.exec = Jvm.exec) {own C : String} {index : Nat} {y : MethodName} {bytes : ByteArray} {maxL : Nat} {ret : Option FieldType} {hh : List (Nat × Nat × Nat × Nat)}
    (hown : s.vm.findClass own = some m.cls) (hlink : (Cond.methodLink own index y).before args s = true) (hinst : (Cond.instanceMethod y).before args s = true) (hsel : (Cond.selects C y y).before args s = true)
    (hcode : (Cond.codeWith y bytes maxL ret hh).before args s = true) (hy : y.cls ≠ "java/lang/invoke/MethodHandle" ∧ y.cls ≠ "java/lang/invoke/VarHandle")
    {W9 : Nat} {Pre : Pt → Array Value → Prop} {Post : Pt → Array Value → Option Value → Pt → Prop} (hK : Back l R p e below s args y 3 W9 Pre Post)
    {b : Addr} {cellB : Cell} (hcell : T.heap[b]? = some cellB) (hobj : cellB.vm.isStatics = false) (hcls : s.vm.findClass C = some cellB.cls)
    {g : JFrame} (hg : g.method = m) (hsize : g.locals.size = c.maxLocals) {argsL rest : List Value} (hlen : ∀ sig, parseMethodDescriptor y.desc = some sig → argsL.length = sig.parameters.length)
    (hstack : g.stack = argsL.reverse ++ .ref b :: rest) (hW : 2 * g.monitorRoom + (rest.map fun v => v.category).sum ≤ W9) (hdg : decode c.code g.pc = .ok (.invokevirtual index, 3))
    (hpre : ∀ vm₁, s.WarmedH vm₁ → Pre ⟨T.setVm vm₁, locs, cells, slots⟩ (Value.ref b :: argsL).toArray) :
    ∃ (v : Option Value) (vm₁ : Vm) (B : Pt), s.WarmedH vm₁ ∧ Stand p l e R s m args below meth c B.U B.locs B.cells B.slots ∧ Post ⟨T.setVm vm₁, locs, cells, slots⟩ (Value.ref b :: argsL).toArray v B ∧
      ∀ target, Steps p.tables e below (B.U.setTop { g with pc := g.pc + 3, stack := v.toList ++ rest }) target → Steps p.tables e below (T.setTop g) target := by
  obtain ⟨mk, methM, hnamed, hmethM, hstM, habM⟩ := Cond.instanceMethod_spec hinst
  obtain ⟨m8, methM', cM, hn8, hmethM', -, -, -, -, -, -, hsigM⟩ := Cond.codeWith_spec hcode
  cases Option.some.inj (hn8.symm.trans hnamed)
  cases hmethM.symm.trans hmethM'
  obtain ⟨c2, r2, m2, q1, q2, q3, q4, kP, hkP, hkPi⟩ := Cond.selects_spec hsel
  cases hcls.symm.trans q1
  cases (State.methodFound?_of_named hnamed hy).symm.trans q2
  cases hnamed.symm.trans q3
  have hselP : selectMethod e.platform s.vm cellB.cls mk = .method mk := by rw [Launch.admits_selectMethod X.admits]; exact q4
  obtain ⟨vm₁, X₁, hstep₁⟩ := X.invokevirtual hexec hown hlink hnamed hmethM hstM hkP hkPi hy (a := b) (cell := cellB) hcell
    (fun z h => by rw [h] at hobj; cases hobj) hselP hmethM habM hkP hkPi (g := g) hg (argsL := argsL) (rest := rest) (hlen _ hsigM) hstack hdg
  obtain ⟨v, B, X', hpost, hsteps⟩ := hK m meth c ⟨T.setVm vm₁, locs, cells, slots⟩ { g with stack := rest } (.invokevirtual index) mk (Value.ref b :: argsL).toArray X₁ hg hsize hdg hW (X₁.named hnamed) (hpre vm₁ X₁.warmed)
  exact ⟨v, vm₁, B, X₁.warmed, X', hpost, fun target h => hstep₁ _ fun acts => by rw [doInvoke_state]; exact hsteps.trans h⟩
abbrev vx_CVW (R : Room) (s : State) (args : Array Value) (own C : String) (index : Nat) (y : MethodName) (bytes : ByteArray) (maxL : Nat) (ret : Option FieldType) (hh : List (Nat × Nat × Nat × Nat)) (ws : List Cond) (rm : Room) (mc ms n : Nat) : Prop :=
  (rm.cells = mc ∧ rm.slots = ms ∧ rm.frames + 1 ≤ R.frames ∧ 8 + (maxL + 11) + rm.locals ≤ R.locals ∧ (∀ w ∈ ws, ∀ (a' : Array Value) (U : State), s.WarmedH U.vm → w.before a' U = true) ∧ Cond.codeWith y bytes maxL ret hh ∈ ws) ∧
  (Cond.codeWith y bytes maxL ret hh).before args s = true ∧ (Cond.initialized y.cls).before args s = true ∧ (y.cls ≠ "java/lang/invoke/MethodHandle" ∧ y.cls ≠ "java/lang/invoke/VarHandle") ∧
  (∀ sig, parseMethodDescriptor y.desc = some sig → n = sig.parameters.length) ∧ (Cond.methodLink own index y).before args s = true ∧ (Cond.instanceMethod y).before args s = true ∧ (Cond.selects C y y).before args s = true
theorem vx_cwVW {own C : String} {index maxL mc ms : Nat} {y : MethodName} {bytes : ByteArray} {ret : Option FieldType} {hh : List (Nat × Nat × Nat × Nat)} {Ts ws ws' : List Cond} {rm : Room} (n : Nat) (ht : ∀ w ∈ Ts, w.before args s = true) (hT : GoodIn Ts (wsV own index C y ws)) (hw : ws = Cond.codeWith y bytes maxL ret hh :: ws') (hrc : rm.cells = mc) (hrs : rm.slots = ms)
    (hd : y.cls = C ∧ y.cls ≠ "java/lang/invoke/MethodHandle" ∧ y.cls ≠ "java/lang/invoke/VarHandle" ∧ (parseMethodDescriptor y.desc).map (fun d => d.parameters.length) = some n) (hR : rm.frames + 1 ≤ R.frames ∧ 8 + (maxL + 11) + rm.locals ≤ R.locals) :
    vx_CVW R s args own C index y bytes maxL ret hh ws rm mc ms n := by
  obtain ⟨hC, hd⟩ := hd
  subst hC
  have ok : ∀ w ∈ wsV own index y.cls y ws, w.before args s = true := fun w h => ht w (hT w h).1
  have hG : GoodIn Ts ws := fun w h => hT w (by unfold wsV; exact List.mem_append_right _ h)
  have hc : Cond.codeWith y bytes maxL ret hh ∈ ws := by rw [hw]; exact List.mem_cons_self
  refine ⟨⟨hrc, hrs, hR.1, hR.2, pay_in ht hG, hc⟩, ht _ (hG _ hc).1, ok _ (by simp [wsV]), ⟨hd.1, hd.2.1⟩, fun sig h => ?_, ok _ (by simp [wsV]), ok _ (by simp [wsV]), ok _ (by simp [wsV])⟩
  have h2 := hd.2.2
  rw [h] at h2
  exact (Option.some.inj h2).symm
theorem vx_runVW {y : MethodName} {bytes cc : ByteArray} {maxL nL mc ms n index : Nat} {ret : Option FieldType} {hh : List (Nat × Nat × Nat × Nat)} {ws : List Cond} {rm : Room} {Pc : Array Value → State → Prop} {Qc : Array Value → State → Outcome → State → Prop} {free : Addr → Prop} {Ts : List Cond} {own C : String} {b : Addr} {As rest : List Value} {g : JFrame}
    (S : CallFix p m c cc nL s args Ts own) (hM : Met l y ws rm Pc Qc mc ms free) (cw : vx_CVW R s args own C index y bytes maxL ret hh ws rm mc ms n) (hp : PreV s H C b Pc As)
    (hg : g.method = m) (hn : As.length = n) (hsize : g.locals.size = nL) (hstack : g.stack = As.reverse ++ .ref b :: rest) (hW : 2 * g.monitorRoom + (rest.map fun v => v.category).sum ≤ 8) (hdg : decode cc g.pc = .ok (.invokevirtual index, 3)) (hf : cells + mc ≤ R.cells ∧ slots + ms ≤ R.slots) :
    va_Run p l e R s m args below meth c H locs cells slots mc ms g rest (Qc (Value.ref b :: As).toArray) free := by
  obtain ⟨⟨hrc, hrs, hfr, hlo, hws, hcw⟩, hcode, hini, hy, hlen, hl, hin, hse⟩ := cw
  have hK : Back l R p e below s args y 3 8 (PreOf R mc ms Pc) (PostOf Qc mc ms free) := va_backW (hh := hh) (bytes := bytes) (maxL := maxL) (ret := ret) hM hp.1 hrc hrs hfr hlo hws hcw (fun a' U hW => word_at hW (Or.inl (by first | rfl | simp [Cond.onTables, Cond.keeps, Cond.steady])) hini)
  obtain ⟨hx, hb, hml, ho, -⟩ := S
  obtain ⟨-, ⟨cellB, hcB, hoB, hclB⟩, hPc⟩ := hp
  intro T hT X
  obtain ⟨v, vm₁, ⟨U', l2, c2, s2⟩, hW₁, X', ⟨g', mk, t, L, e1, e2, hq, h1, hL, h2, h3⟩, st⟩ := vx_callVW X hx (C := C) (hh := hh) (bytes := bytes) (maxL := maxL) (ret := ret) ho hl hin hse hcode hy hK (by rw [hT]; exact hcB) hoB hclB hg (hsize.trans hml.symm) (argsL := As) (rest := rest) (fun sig h => hn.trans (hlen sig h)) hstack hW (by rw [hb]; exact hdg)
    (fun vm₁ hW₁ => ⟨hf.1, hf.2, hPc (T.setVm vm₁) hT hW₁⟩)
  dsimp only [Pt.U, Pt.locs, Pt.cells, Pt.slots] at X' e1 e2 h1 h2 h3 st
  subst h1; subst h2; subst h3
  exact ⟨v, (T.setVm vm₁).calling g' mk (Value.ref b :: As).toArray, t, U', L, hT, X', hL, e1, e2, hq, st⟩
section
variable {y : MethodName} {bytes cc : ByteArray} {maxL nL mc ms n index : Nat} {ret : Option FieldType} {ws : List Cond} {rm : Room} {Pc : Array Value → State → Prop} {Qc : Array Value → State → Outcome → State → Prop} {XC : String → State → State → Prop} {free : Addr → Prop} {Ts : List Cond} {own C : String} {b : Addr} {As rest : List Value} {g : JFrame}
theorem vx_runVX {hh : List (Nat × Nat × Nat × Nat)} (S : CallFix p m c cc nL s args Ts own) (hM : vx_Met l y ws rm Pc Qc XC mc ms free) (cw : vx_CVW R s args own C index y bytes maxL ret hh ws rm mc ms n) (hp : PreV s H C b Pc As)
    (hg : g.method = m) (hn : As.length = n) (hsize : g.locals.size = nL) (hstack : g.stack = As.reverse ++ .ref b :: rest) (hW : 2 * g.monitorRoom + (rest.map fun v => v.category).sum ≤ 8) (hdg : decode cc g.pc = .ok (.invokevirtual index, 3)) (hf : cells + mc ≤ R.cells ∧ slots + ms ≤ R.slots) :
    vx_Run p l e R s m args below meth c H locs cells slots mc ms g rest (Qc (Value.ref b :: As).toArray) XC free := by
  obtain ⟨⟨hrc, hrs, hfr, hlo, hws, hcw⟩, hcode, hini, hy, hlen, hl, hin, hse⟩ := cw
  have hK : vx_Back l R p e below s args y 3 8 (PreOf R mc ms Pc) (PostOf Qc mc ms free) (vx_Post XC mc ms free) := vx_backW (hh := hh) (bytes := bytes) (maxL := maxL) (ret := ret) hM hp.1 hrc hrs hfr hlo hws hcw (fun a' U hW => word_at hW (Or.inl (by first | rfl | simp [Cond.onTables, Cond.keeps, Cond.steady])) hini)
  obtain ⟨hx, hb, hml, ho, -⟩ := S
  obtain ⟨-, ⟨cellB, hcB, hoB, hclB⟩, hPc⟩ := hp
  intro T hT X
  rcases vx_callVX X hx (C := C) (hh := hh) (bytes := bytes) (maxL := maxL) (ret := ret) ho hl hin hse hcode hy hK (by rw [hT]; exact hcB) hoB hclB hg (hsize.trans hml.symm) (argsL := As) (rest := rest) (fun sig h => hn.trans (hlen sig h)) hstack hW (by rw [hb]; exact hdg)
    (fun vm₁ hW₁ => ⟨hf.1, hf.2, hPc (T.setVm vm₁) hT hW₁⟩) with ⟨v, vm₁, ⟨U', l2, c2, s2⟩, hW₁, X', ⟨g', mk, t, L, e1, e2, hq, h1, hL, h2, h3⟩, st⟩ | ⟨q, vm₁, ⟨U', l2, c2, s2⟩, hW₁, X', ⟨g', mk, t, L, E, ce, e1, e2, hq, hce, hcv, hcl, h1, hL, h2, h3⟩, st⟩
  · dsimp only [Pt.U, Pt.locs, Pt.cells, Pt.slots] at X' e1 e2 h1 h2 h3 st
    subst h1; subst h2; subst h3
    exact Or.inl ⟨v, (T.setVm vm₁).calling g' mk (Value.ref b :: As).toArray, t, U', L, hT, X', hL, e1, e2, hq, st⟩
  · dsimp only [Pt.U, Pt.locs, Pt.cells, Pt.slots] at X' e1 e2 h1 h2 h3 st hcl
    subst h1; subst h2; subst h3
    exact Or.inr ⟨q, (T.setVm vm₁).calling g' mk (Value.ref b :: As).toArray, t, U', L, E, ce, hT, X', hL, e1, e2, hq, hce, hcv, vx_cls hW₁ hcl, st⟩
theorem vx_runSX {hh : List (Nat × Nat × Nat × Nat)} (S : CallFix p m c cc nL s args Ts own) (hM : vx_Met l y ws rm Pc Qc XC mc ms free) (cw : vx_CSW R s args own index y bytes maxL ret hh ws rm mc ms n) (hp : PreS s H Pc As)
    (hg : g.method = m) (hn : As.length = n) (hsize : g.locals.size = nL) (hstack : g.stack = As.reverse ++ rest) (hW : 2 * g.monitorRoom + (rest.map fun v => v.category).sum ≤ 8) (hdg : decode cc g.pc = .ok (.invokestatic index, 3)) (hf : cells + mc ≤ R.cells ∧ slots + ms ≤ R.slots) :
    vx_Run p l e R s m args below meth c H locs cells slots mc ms g rest (Qc As.toArray) XC free := by
  obtain ⟨⟨hrc, hrs, hfr, hlo, hws, hcw⟩, hcode, hini, hy, hlen, hl, hstt⟩ := cw
  have hK : vx_Back l R p e below s args y 3 8 (PreOf R mc ms Pc) (PostOf Qc mc ms free) (vx_Post XC mc ms free) := vx_backW (hh := hh) (bytes := bytes) (maxL := maxL) (ret := ret) hM hp.1 hrc hrs hfr hlo hws hcw (fun a' U hW => word_at hW (Or.inl (by first | rfl | simp [Cond.onTables, Cond.keeps, Cond.steady])) hini)
  obtain ⟨hx, hb, hml, ho, -⟩ := S
  intro T hT X
  rcases vx_callSX X hx (hh := hh) (bytes := bytes) (maxL := maxL) (ret := ret) ho hl hstt hini hcode hy hK hg (hsize.trans hml.symm) (argsL := As) (rest := rest) (fun sig h => hn.trans (hlen sig h)) hstack hW (by rw [hb]; exact hdg)
    (fun vm₁ hW₁ => ⟨hf.1, hf.2, hp.2 (T.setVm vm₁) hT hW₁⟩) with ⟨v, vm₁, ⟨U', l2, c2, s2⟩, hW₁, X', ⟨g', mk, t, L, e1, e2, hq, h1, hL, h2, h3⟩, st⟩ | ⟨q, vm₁, ⟨U', l2, c2, s2⟩, hW₁, X', ⟨g', mk, t, L, E, ce, e1, e2, hq, hce, hcv, hcl, h1, hL, h2, h3⟩, st⟩
  · dsimp only [Pt.U, Pt.locs, Pt.cells, Pt.slots] at X' e1 e2 h1 h2 h3 st
    subst h1; subst h2; subst h3
    exact Or.inl ⟨v, (T.setVm vm₁).calling g' mk As.toArray, t, U', L, hT, X', hL, e1, e2, hq, st⟩
  · dsimp only [Pt.U, Pt.locs, Pt.cells, Pt.slots] at X' e1 e2 h1 h2 h3 st hcl
    subst h1; subst h2; subst h3
    exact Or.inr ⟨q, (T.setVm vm₁).calling g' mk As.toArray, t, U', L, E, ce, hT, X', hL, e1, e2, hq, hce, hcv, vx_cls hW₁ hcl, st⟩
end
end VXH
theorem vx_ofWH {l : Launch} {y : MethodName} {ws ws' : List Cond} {rm : Room} {Pc : Array Value → State → Prop} {Qc : Array Value → State → Outcome → State → Prop} {XC : String → State → State → Prop} {mc ms : Nat} {free : Addr → Prop} {cc : ByteArray} {maxL : Nat} {ret : Option FieldType} {hh : List (Nat × Nat × Nat × Nat)}
    (hy : plainName y.cls = true) (hw : ws = Cond.codeWith y cc maxL ret hh :: ws')
    (body : ∀ p e s m args below meth c s₁, BodyLoose p l y (headSpec ws rm) cc maxL ret e s m args below meth c s₁ → c.maxLocals = maxL → Pc args s →
      W p l e (headSpec ws rm).room s m args below meth c s.heap [] 0 0 (vx_MQ below Qc XC args s mc ms free) (entryFrame m args maxL)) : vx_Met l y ws rm Pc Qc XC mc ms free := by
  refine MetFree.of_bodyS (code := cc) (maxLocals := maxL) (ret := ret) hy ?_ ?_
  · intro args s m h hn
    obtain ⟨m9, meth, c, hn9, h1, h2, h3, h4, -, h5, h6, -⟩ := Cond.codeWith_spec (atoms_spec (ws := ws) h _ (by rw [hw]; exact List.mem_cons_self))
    cases hn.symm.trans hn9
    exact ⟨meth, c, h1, h2, h3, h4, h5, h6⟩
  · intro p e s m args below meth c s₁ B hml hP _
    have hh0 : s₁.heap = s.heap := by rw [B.state]; rfl
    obtain ⟨t, a1, o, b1, b2, b3⟩ := body p e s m args below meth c s₁ B hml hP s₁ hh0 (Stand.of_body B)
    exact ⟨t, o, a1, b1, b2, b3⟩
/-! ===== END ===== -/
end
section
-- ===== PART A: goes FIRST, ahead of the names: the tables' words, and 'selects' of the private methods out of them =====
/-- a private method of a class that the tables say can be made, by its rows of tables_1 -/
def lw_okq (q : MethodName × Nat) : Prop := (q.1.cls ≠ "java/lang/invoke/MethodHandle" ∧ q.1.cls ≠ "java/lang/invoke/VarHandle") ∧ Cond.instantiable q.1.cls q.2 ∈ tables_1 ∧ Cond.privateMethod q.1 ∈ tables_1 ∧ Cond.instanceMethod q.1 ∈ tables_1
theorem lw_p0 : lw_okq (⟨"LandUses", "bestSearch", "()LLandUses$Search;"⟩, 14) := ⟨⟨by decide +kernel, by decide +kernel⟩, List.mem_of_getElem? (i := 25) (by decide +kernel), List.mem_of_getElem? (i := 353) (by decide +kernel), List.mem_of_getElem? (i := 354) (by decide +kernel)⟩
theorem lw_p1 : lw_okq (⟨"LandUses$Search", "listSquares", "(J)V"⟩, 8) := ⟨⟨by decide +kernel, by decide +kernel⟩, List.mem_of_getElem? (i := 177) (by decide +kernel), List.mem_of_getElem? (i := 362) (by decide +kernel), List.mem_of_getElem? (i := 363) (by decide +kernel)⟩
theorem lw_p2 : lw_okq (⟨"LandUses$Search", "putFrom", "(III)V"⟩, 8) := ⟨⟨by decide +kernel, by decide +kernel⟩, List.mem_of_getElem? (i := 177) (by decide +kernel), List.mem_of_getElem? (i := 382) (by decide +kernel), List.mem_of_getElem? (i := 383) (by decide +kernel)⟩
theorem lw_p3 : lw_okq (⟨"LandUses$Search", "judge", "(II)V"⟩, 8) := ⟨⟨by decide +kernel, by decide +kernel⟩, List.mem_of_getElem? (i := 177) (by decide +kernel), List.mem_of_getElem? (i := 397) (by decide +kernel), List.mem_of_getElem? (i := 398) (by decide +kernel)⟩
theorem lw_p4 : lw_okq (⟨"LandUses$Line", "countNewPairs", "(JLLandUses$Uses;I)I"⟩, 7) := ⟨⟨by decide +kernel, by decide +kernel⟩, List.mem_of_getElem? (i := 131) (by decide +kernel), List.mem_of_getElem? (i := 410) (by decide +kernel), List.mem_of_getElem? (i := 411) (by decide +kernel)⟩
theorem lw_p5 : lw_okq (⟨"java/lang/Throwable", "fillInStackTrace", "(I)Ljava/lang/Throwable;"⟩, 6) := ⟨⟨by decide +kernel, by decide +kernel⟩, List.mem_of_getElem? (i := 511) (by decide +kernel), List.mem_of_getElem? (i := 509) (by decide +kernel), List.mem_of_getElem? (i := 510) (by decide +kernel)⟩
theorem lw_p6 : lw_okq (⟨"LandUses$Reader", "skipBlanks", "()V"⟩, 3) := ⟨⟨by decide +kernel, by decide +kernel⟩, List.mem_of_getElem? (i := 49) (by decide +kernel), List.mem_of_getElem? (i := 597) (by decide +kernel), List.mem_of_getElem? (i := 598) (by decide +kernel)⟩
theorem lw_p7 : lw_okq (⟨"LandUses$Reader", "readLine", "(LLandUses$Line;)V"⟩, 3) := ⟨⟨by decide +kernel, by decide +kernel⟩, List.mem_of_getElem? (i := 49) (by decide +kernel), List.mem_of_getElem? (i := 605) (by decide +kernel), List.mem_of_getElem? (i := 606) (by decide +kernel)⟩
theorem lw_p8 : lw_okq (⟨"LandUses$Reader", "skipWord", "(Ljava/lang/String;)Z"⟩, 3) := ⟨⟨by decide +kernel, by decide +kernel⟩, List.mem_of_getElem? (i := 49) (by decide +kernel), List.mem_of_getElem? (i := 610) (by decide +kernel), List.mem_of_getElem? (i := 611) (by decide +kernel)⟩
theorem lw_p9 : lw_okq (⟨"LandUses$Reader", "runLength", "(CC)I"⟩, 3) := ⟨⟨by decide +kernel, by decide +kernel⟩, List.mem_of_getElem? (i := 49) (by decide +kernel), List.mem_of_getElem? (i := 614) (by decide +kernel), List.mem_of_getElem? (i := 615) (by decide +kernel)⟩
theorem lw_p10 : lw_okq (⟨"LandUses$Reader", "readLaw", "(LLandUses$Line;)V"⟩, 3) := ⟨⟨by decide +kernel, by decide +kernel⟩, List.mem_of_getElem? (i := 49) (by decide +kernel), List.mem_of_getElem? (i := 666) (by decide +kernel), List.mem_of_getElem? (i := 667) (by decide +kernel)⟩
theorem lw_p11 : lw_okq (⟨"LandUses$Reader", "readUse", "()I"⟩, 3) := ⟨⟨by decide +kernel, by decide +kernel⟩, List.mem_of_getElem? (i := 49) (by decide +kernel), List.mem_of_getElem? (i := 670) (by decide +kernel), List.mem_of_getElem? (i := 671) (by decide +kernel)⟩
theorem lw_p12 : lw_okq (⟨"LandUses$Reader", "refuseNext", "()V"⟩, 3) := ⟨⟨by decide +kernel, by decide +kernel⟩, List.mem_of_getElem? (i := 49) (by decide +kernel), List.mem_of_getElem? (i := 679) (by decide +kernel), List.mem_of_getElem? (i := 680) (by decide +kernel)⟩
theorem lw_p13 : lw_okq (⟨"LandUses$Reader", "readNumber", "(II)I"⟩, 3) := ⟨⟨by decide +kernel, by decide +kernel⟩, List.mem_of_getElem? (i := 49) (by decide +kernel), List.mem_of_getElem? (i := 684) (by decide +kernel), List.mem_of_getElem? (i := 685) (by decide +kernel)⟩
theorem lw_p14 : lw_okq (⟨"LandUses$Reader", "readGrow", "(LLandUses$Line;)V"⟩, 3) := ⟨⟨by decide +kernel, by decide +kernel⟩, List.mem_of_getElem? (i := 49) (by decide +kernel), List.mem_of_getElem? (i := 692) (by decide +kernel), List.mem_of_getElem? (i := 693) (by decide +kernel)⟩
theorem lw_p15 : lw_okq (⟨"LandUses$Reader", "readWord", "(Ljava/lang/String;)V"⟩, 3) := ⟨⟨by decide +kernel, by decide +kernel⟩, List.mem_of_getElem? (i := 49) (by decide +kernel), List.mem_of_getElem? (i := 697) (by decide +kernel), List.mem_of_getElem? (i := 698) (by decide +kernel)⟩
def lw_privs_1 : List (MethodName × Nat) := [(⟨"LandUses", "bestSearch", "()LLandUses$Search;"⟩, 14), (⟨"LandUses$Search", "listSquares", "(J)V"⟩, 8), (⟨"LandUses$Search", "putFrom", "(III)V"⟩, 8), (⟨"LandUses$Search", "judge", "(II)V"⟩, 8), (⟨"LandUses$Line", "countNewPairs", "(JLLandUses$Uses;I)I"⟩, 7), (⟨"java/lang/Throwable", "fillInStackTrace", "(I)Ljava/lang/Throwable;"⟩, 6), (⟨"LandUses$Reader", "skipBlanks", "()V"⟩, 3), (⟨"LandUses$Reader", "readLine", "(LLandUses$Line;)V"⟩, 3), (⟨"LandUses$Reader", "skipWord", "(Ljava/lang/String;)Z"⟩, 3), (⟨"LandUses$Reader", "runLength", "(CC)I"⟩, 3), (⟨"LandUses$Reader", "readLaw", "(LLandUses$Line;)V"⟩, 3), (⟨"LandUses$Reader", "readUse", "()I"⟩, 3), (⟨"LandUses$Reader", "refuseNext", "()V"⟩, 3), (⟨"LandUses$Reader", "readNumber", "(II)I"⟩, 3), (⟨"LandUses$Reader", "readGrow", "(LLandUses$Line;)V"⟩, 3), (⟨"LandUses$Reader", "readWord", "(Ljava/lang/String;)V"⟩, 3)]
theorem lw_r1 : ∀ q ∈ lw_privs_1, lw_okq q := List.forall_mem_cons.mpr ⟨lw_p0, List.forall_mem_cons.mpr ⟨lw_p1, List.forall_mem_cons.mpr ⟨lw_p2, List.forall_mem_cons.mpr ⟨lw_p3, List.forall_mem_cons.mpr ⟨lw_p4, List.forall_mem_cons.mpr ⟨lw_p5, List.forall_mem_cons.mpr ⟨lw_p6, List.forall_mem_cons.mpr ⟨lw_p7, List.forall_mem_cons.mpr ⟨lw_p8, List.forall_mem_cons.mpr ⟨lw_p9, List.forall_mem_cons.mpr ⟨lw_p10, List.forall_mem_cons.mpr ⟨lw_p11, List.forall_mem_cons.mpr ⟨lw_p12, List.forall_mem_cons.mpr ⟨lw_p13, List.forall_mem_cons.mpr ⟨lw_p14, List.forall_mem_cons.mpr ⟨lw_p15, fun _ h => absurd h List.not_mem_nil⟩⟩⟩⟩⟩⟩⟩⟩⟩⟩⟩⟩⟩⟩⟩⟩
theorem lw_p16 : lw_okq (⟨"LandUses$Reader", "readWorth", "(LLandUses$Line;)V"⟩, 3) := ⟨⟨by decide +kernel, by decide +kernel⟩, List.mem_of_getElem? (i := 49) (by decide +kernel), List.mem_of_getElem? (i := 703) (by decide +kernel), List.mem_of_getElem? (i := 704) (by decide +kernel)⟩
theorem lw_p17 : lw_okq (⟨"LandUses$Reader", "readSemicolon", "()Z"⟩, 3) := ⟨⟨by decide +kernel, by decide +kernel⟩, List.mem_of_getElem? (i := 49) (by decide +kernel), List.mem_of_getElem? (i := 709) (by decide +kernel), List.mem_of_getElem? (i := 710) (by decide +kernel)⟩
theorem lw_p18 : lw_okq (⟨"LandUses", "checkLine", "(I)V"⟩, 14) := ⟨⟨by decide +kernel, by decide +kernel⟩, List.mem_of_getElem? (i := 25) (by decide +kernel), List.mem_of_getElem? (i := 721) (by decide +kernel), List.mem_of_getElem? (i := 722) (by decide +kernel)⟩
theorem lw_p19 : lw_okq (⟨"LandUses", "planOrLand", "(I)LLandUses$Uses;"⟩, 14) := ⟨⟨by decide +kernel, by decide +kernel⟩, List.mem_of_getElem? (i := 25) (by decide +kernel), List.mem_of_getElem? (i := 815) (by decide +kernel), List.mem_of_getElem? (i := 816) (by decide +kernel)⟩
theorem lw_p20 : lw_okq (⟨"LandUses", "checkPlan", "(I)V"⟩, 14) := ⟨⟨by decide +kernel, by decide +kernel⟩, List.mem_of_getElem? (i := 25) (by decide +kernel), List.mem_of_getElem? (i := 819) (by decide +kernel), List.mem_of_getElem? (i := 820) (by decide +kernel)⟩
theorem lw_p21 : lw_okq (⟨"LandUsesModel", "throwsIf", "(ZI)Z"⟩, 33) := ⟨⟨by decide +kernel, by decide +kernel⟩, List.mem_of_getElem? (i := 835) (by decide +kernel), List.mem_of_getElem? (i := 956) (by decide +kernel), List.mem_of_getElem? (i := 957) (by decide +kernel)⟩
theorem lw_p22 : lw_okq (⟨"LandUsesModel", "readAll", "()I"⟩, 33) := ⟨⟨by decide +kernel, by decide +kernel⟩, List.mem_of_getElem? (i := 835) (by decide +kernel), List.mem_of_getElem? (i := 989) (by decide +kernel), List.mem_of_getElem? (i := 990) (by decide +kernel)⟩
theorem lw_p23 : lw_okq (⟨"LandUsesModel", "blanks", "()V"⟩, 33) := ⟨⟨by decide +kernel, by decide +kernel⟩, List.mem_of_getElem? (i := 835) (by decide +kernel), List.mem_of_getElem? (i := 993) (by decide +kernel), List.mem_of_getElem? (i := 994) (by decide +kernel)⟩
theorem lw_p24 : lw_okq (⟨"LandUsesModel", "isAt", "(II)Z"⟩, 33) := ⟨⟨by decide +kernel, by decide +kernel⟩, List.mem_of_getElem? (i := 835) (by decide +kernel), List.mem_of_getElem? (i := 997) (by decide +kernel), List.mem_of_getElem? (i := 998) (by decide +kernel)⟩
theorem lw_p25 : lw_okq (⟨"LandUsesModel", "readLine", "(I)Z"⟩, 33) := ⟨⟨by decide +kernel, by decide +kernel⟩, List.mem_of_getElem? (i := 835) (by decide +kernel), List.mem_of_getElem? (i := 1001) (by decide +kernel), List.mem_of_getElem? (i := 1002) (by decide +kernel)⟩
theorem lw_p26 : lw_okq (⟨"LandUsesModel", "word", "()V"⟩, 33) := ⟨⟨by decide +kernel, by decide +kernel⟩, List.mem_of_getElem? (i := 835) (by decide +kernel), List.mem_of_getElem? (i := 1005) (by decide +kernel), List.mem_of_getElem? (i := 1006) (by decide +kernel)⟩
theorem lw_p27 : lw_okq (⟨"LandUsesModel", "isWord", "(Ljava/lang/String;)Z"⟩, 33) := ⟨⟨by decide +kernel, by decide +kernel⟩, List.mem_of_getElem? (i := 835) (by decide +kernel), List.mem_of_getElem? (i := 1010) (by decide +kernel), List.mem_of_getElem? (i := 1011) (by decide +kernel)⟩
theorem lw_p28 : lw_okq (⟨"LandUsesModel", "readLaw", "(I)Z"⟩, 33) := ⟨⟨by decide +kernel, by decide +kernel⟩, List.mem_of_getElem? (i := 835) (by decide +kernel), List.mem_of_getElem? (i := 1016) (by decide +kernel), List.mem_of_getElem? (i := 1017) (by decide +kernel)⟩
theorem lw_p29 : lw_okq (⟨"LandUsesModel", "readUse", "()I"⟩, 33) := ⟨⟨by decide +kernel, by decide +kernel⟩, List.mem_of_getElem? (i := 835) (by decide +kernel), List.mem_of_getElem? (i := 1020) (by decide +kernel), List.mem_of_getElem? (i := 1021) (by decide +kernel)⟩
theorem lw_p30 : lw_okq (⟨"LandUsesModel", "useOf", "()I"⟩, 33) := ⟨⟨by decide +kernel, by decide +kernel⟩, List.mem_of_getElem? (i := 835) (by decide +kernel), List.mem_of_getElem? (i := 1024) (by decide +kernel), List.mem_of_getElem? (i := 1025) (by decide +kernel)⟩
theorem lw_p31 : lw_okq (⟨"LandUsesModel", "number", "(II)I"⟩, 33) := ⟨⟨by decide +kernel, by decide +kernel⟩, List.mem_of_getElem? (i := 835) (by decide +kernel), List.mem_of_getElem? (i := 1035) (by decide +kernel), List.mem_of_getElem? (i := 1036) (by decide +kernel)⟩
def lw_privs_2 : List (MethodName × Nat) := [(⟨"LandUses$Reader", "readWorth", "(LLandUses$Line;)V"⟩, 3), (⟨"LandUses$Reader", "readSemicolon", "()Z"⟩, 3), (⟨"LandUses", "checkLine", "(I)V"⟩, 14), (⟨"LandUses", "planOrLand", "(I)LLandUses$Uses;"⟩, 14), (⟨"LandUses", "checkPlan", "(I)V"⟩, 14), (⟨"LandUsesModel", "throwsIf", "(ZI)Z"⟩, 33), (⟨"LandUsesModel", "readAll", "()I"⟩, 33), (⟨"LandUsesModel", "blanks", "()V"⟩, 33), (⟨"LandUsesModel", "isAt", "(II)Z"⟩, 33), (⟨"LandUsesModel", "readLine", "(I)Z"⟩, 33), (⟨"LandUsesModel", "word", "()V"⟩, 33), (⟨"LandUsesModel", "isWord", "(Ljava/lang/String;)Z"⟩, 33), (⟨"LandUsesModel", "readLaw", "(I)Z"⟩, 33), (⟨"LandUsesModel", "readUse", "()I"⟩, 33), (⟨"LandUsesModel", "useOf", "()I"⟩, 33), (⟨"LandUsesModel", "number", "(II)I"⟩, 33)]
theorem lw_r2 : ∀ q ∈ lw_privs_2, lw_okq q := List.forall_mem_cons.mpr ⟨lw_p16, List.forall_mem_cons.mpr ⟨lw_p17, List.forall_mem_cons.mpr ⟨lw_p18, List.forall_mem_cons.mpr ⟨lw_p19, List.forall_mem_cons.mpr ⟨lw_p20, List.forall_mem_cons.mpr ⟨lw_p21, List.forall_mem_cons.mpr ⟨lw_p22, List.forall_mem_cons.mpr ⟨lw_p23, List.forall_mem_cons.mpr ⟨lw_p24, List.forall_mem_cons.mpr ⟨lw_p25, List.forall_mem_cons.mpr ⟨lw_p26, List.forall_mem_cons.mpr ⟨lw_p27, List.forall_mem_cons.mpr ⟨lw_p28, List.forall_mem_cons.mpr ⟨lw_p29, List.forall_mem_cons.mpr ⟨lw_p30, List.forall_mem_cons.mpr ⟨lw_p31, fun _ h => absurd h List.not_mem_nil⟩⟩⟩⟩⟩⟩⟩⟩⟩⟩⟩⟩⟩⟩⟩⟩
theorem lw_p32 : lw_okq (⟨"LandUsesModel", "readGrow", "(I)Z"⟩, 33) := ⟨⟨by decide +kernel, by decide +kernel⟩, List.mem_of_getElem? (i := 835) (by decide +kernel), List.mem_of_getElem? (i := 1042) (by decide +kernel), List.mem_of_getElem? (i := 1043) (by decide +kernel)⟩
theorem lw_p33 : lw_okq (⟨"LandUsesModel", "need", "(Ljava/lang/String;)Z"⟩, 33) := ⟨⟨by decide +kernel, by decide +kernel⟩, List.mem_of_getElem? (i := 835) (by decide +kernel), List.mem_of_getElem? (i := 1047) (by decide +kernel), List.mem_of_getElem? (i := 1048) (by decide +kernel)⟩
theorem lw_p34 : lw_okq (⟨"LandUsesModel", "readWorth", "(I)Z"⟩, 33) := ⟨⟨by decide +kernel, by decide +kernel⟩, List.mem_of_getElem? (i := 835) (by decide +kernel), List.mem_of_getElem? (i := 1053) (by decide +kernel), List.mem_of_getElem? (i := 1054) (by decide +kernel)⟩
theorem lw_p35 : lw_okq (⟨"LandUsesModel", "worthOf", "()I"⟩, 33) := ⟨⟨by decide +kernel, by decide +kernel⟩, List.mem_of_getElem? (i := 835) (by decide +kernel), List.mem_of_getElem? (i := 1067) (by decide +kernel), List.mem_of_getElem? (i := 1068) (by decide +kernel)⟩
theorem lw_p36 : lw_okq (⟨"LandUsesModel", "addsOf", "(I)I"⟩, 33) := ⟨⟨by decide +kernel, by decide +kernel⟩, List.mem_of_getElem? (i := 835) (by decide +kernel), List.mem_of_getElem? (i := 1071) (by decide +kernel), List.mem_of_getElem? (i := 1072) (by decide +kernel)⟩
theorem lw_p37 : lw_okq (⟨"LandUsesModel", "alone", "(III)I"⟩, 33) := ⟨⟨by decide +kernel, by decide +kernel⟩, List.mem_of_getElem? (i := 835) (by decide +kernel), List.mem_of_getElem? (i := 1075) (by decide +kernel), List.mem_of_getElem? (i := 1076) (by decide +kernel)⟩
theorem lw_p38 : lw_okq (⟨"LandUsesModel", "pair", "(IIIII)I"⟩, 33) := ⟨⟨by decide +kernel, by decide +kernel⟩, List.mem_of_getElem? (i := 835) (by decide +kernel), List.mem_of_getElem? (i := 1079) (by decide +kernel), List.mem_of_getElem? (i := 1080) (by decide +kernel)⟩
theorem lw_p39 : lw_okq (⟨"LandUsesModel", "holds", "(I)Z"⟩, 33) := ⟨⟨by decide +kernel, by decide +kernel⟩, List.mem_of_getElem? (i := 835) (by decide +kernel), List.mem_of_getElem? (i := 1097) (by decide +kernel), List.mem_of_getElem? (i := 1098) (by decide +kernel)⟩
theorem lw_p40 : lw_okq (⟨"LandUsesModel", "areApart", "(I)Z"⟩, 33) := ⟨⟨by decide +kernel, by decide +kernel⟩, List.mem_of_getElem? (i := 835) (by decide +kernel), List.mem_of_getElem? (i := 1101) (by decide +kernel), List.mem_of_getElem? (i := 1102) (by decide +kernel)⟩
theorem lw_p41 : lw_okq (⟨"LandUsesModel", "countOf", "(I)I"⟩, 33) := ⟨⟨by decide +kernel, by decide +kernel⟩, List.mem_of_getElem? (i := 835) (by decide +kernel), List.mem_of_getElem? (i := 1105) (by decide +kernel), List.mem_of_getElem? (i := 1106) (by decide +kernel)⟩
theorem lw_p42 : lw_okq (⟨"LandUsesModel", "areJoined", "(I)Z"⟩, 33) := ⟨⟨by decide +kernel, by decide +kernel⟩, List.mem_of_getElem? (i := 835) (by decide +kernel), List.mem_of_getElem? (i := 1109) (by decide +kernel), List.mem_of_getElem? (i := 1110) (by decide +kernel)⟩
theorem lw_p43 : lw_okq (⟨"LandUsesModel", "grows", "(II)Z"⟩, 33) := ⟨⟨by decide +kernel, by decide +kernel⟩, List.mem_of_getElem? (i := 835) (by decide +kernel), List.mem_of_getElem? (i := 1120) (by decide +kernel), List.mem_of_getElem? (i := 1121) (by decide +kernel)⟩
theorem lw_p44 : lw_okq (⟨"LandUsesModel", "seeks", "(I)Z"⟩, 33) := ⟨⟨by decide +kernel, by decide +kernel⟩, List.mem_of_getElem? (i := 835) (by decide +kernel), List.mem_of_getElem? (i := 1128) (by decide +kernel), List.mem_of_getElem? (i := 1129) (by decide +kernel)⟩
theorem lw_p45 : lw_okq (⟨"LandUsesModel", "weighs", "()V"⟩, 33) := ⟨⟨by decide +kernel, by decide +kernel⟩, List.mem_of_getElem? (i := 835) (by decide +kernel), List.mem_of_getElem? (i := 1132) (by decide +kernel), List.mem_of_getElem? (i := 1133) (by decide +kernel)⟩
theorem lw_p46 : lw_okq (⟨"LandUsesModel", "others", "()I"⟩, 33) := ⟨⟨by decide +kernel, by decide +kernel⟩, List.mem_of_getElem? (i := 835) (by decide +kernel), List.mem_of_getElem? (i := 1139) (by decide +kernel), List.mem_of_getElem? (i := 1140) (by decide +kernel)⟩
theorem lw_p47 : lw_okq (⟨"LandUsesModel", "allHold", "(I)Z"⟩, 33) := ⟨⟨by decide +kernel, by decide +kernel⟩, List.mem_of_getElem? (i := 835) (by decide +kernel), List.mem_of_getElem? (i := 1143) (by decide +kernel), List.mem_of_getElem? (i := 1144) (by decide +kernel)⟩
def lw_privs_3 : List (MethodName × Nat) := [(⟨"LandUsesModel", "readGrow", "(I)Z"⟩, 33), (⟨"LandUsesModel", "need", "(Ljava/lang/String;)Z"⟩, 33), (⟨"LandUsesModel", "readWorth", "(I)Z"⟩, 33), (⟨"LandUsesModel", "worthOf", "()I"⟩, 33), (⟨"LandUsesModel", "addsOf", "(I)I"⟩, 33), (⟨"LandUsesModel", "alone", "(III)I"⟩, 33), (⟨"LandUsesModel", "pair", "(IIIII)I"⟩, 33), (⟨"LandUsesModel", "holds", "(I)Z"⟩, 33), (⟨"LandUsesModel", "areApart", "(I)Z"⟩, 33), (⟨"LandUsesModel", "countOf", "(I)I"⟩, 33), (⟨"LandUsesModel", "areJoined", "(I)Z"⟩, 33), (⟨"LandUsesModel", "grows", "(II)Z"⟩, 33), (⟨"LandUsesModel", "seeks", "(I)Z"⟩, 33), (⟨"LandUsesModel", "weighs", "()V"⟩, 33), (⟨"LandUsesModel", "others", "()I"⟩, 33), (⟨"LandUsesModel", "allHold", "(I)Z"⟩, 33)]
theorem lw_r3 : ∀ q ∈ lw_privs_3, lw_okq q := List.forall_mem_cons.mpr ⟨lw_p32, List.forall_mem_cons.mpr ⟨lw_p33, List.forall_mem_cons.mpr ⟨lw_p34, List.forall_mem_cons.mpr ⟨lw_p35, List.forall_mem_cons.mpr ⟨lw_p36, List.forall_mem_cons.mpr ⟨lw_p37, List.forall_mem_cons.mpr ⟨lw_p38, List.forall_mem_cons.mpr ⟨lw_p39, List.forall_mem_cons.mpr ⟨lw_p40, List.forall_mem_cons.mpr ⟨lw_p41, List.forall_mem_cons.mpr ⟨lw_p42, List.forall_mem_cons.mpr ⟨lw_p43, List.forall_mem_cons.mpr ⟨lw_p44, List.forall_mem_cons.mpr ⟨lw_p45, List.forall_mem_cons.mpr ⟨lw_p46, List.forall_mem_cons.mpr ⟨lw_p47, fun _ h => absurd h List.not_mem_nil⟩⟩⟩⟩⟩⟩⟩⟩⟩⟩⟩⟩⟩⟩⟩⟩
theorem lw_p48 : lw_okq (⟨"LandUsesModel", "isLaw", "(I)Z"⟩, 33) := ⟨⟨by decide +kernel, by decide +kernel⟩, List.mem_of_getElem? (i := 835) (by decide +kernel), List.mem_of_getElem? (i := 1163) (by decide +kernel), List.mem_of_getElem? (i := 1164) (by decide +kernel)⟩
theorem lw_p49 : lw_okq (⟨"LandUsesModel", "useIn", "(II)I"⟩, 33) := ⟨⟨by decide +kernel, by decide +kernel⟩, List.mem_of_getElem? (i := 835) (by decide +kernel), List.mem_of_getElem? (i := 1179) (by decide +kernel), List.mem_of_getElem? (i := 1180) (by decide +kernel)⟩
def lw_privs_4 : List (MethodName × Nat) := [(⟨"LandUsesModel", "isLaw", "(I)Z"⟩, 33), (⟨"LandUsesModel", "useIn", "(II)I"⟩, 33)]
theorem lw_r4 : ∀ q ∈ lw_privs_4, lw_okq q := List.forall_mem_cons.mpr ⟨lw_p48, List.forall_mem_cons.mpr ⟨lw_p49, fun _ h => absurd h List.not_mem_nil⟩⟩
def lw_privs : List (MethodName × Nat) := lw_privs_1 ++ (lw_privs_2 ++ (lw_privs_3 ++ (lw_privs_4)))
def lw_tbl : List Cond := k2_sels lw_privs ++ tables_1
theorem lw_privs_ok : ∀ q ∈ lw_privs, lw_okq q := by
  show ∀ q ∈ lw_privs_1 ++ (lw_privs_2 ++ (lw_privs_3 ++ (lw_privs_4))), lw_okq q
  exact List.forall_mem_append.mpr ⟨lw_r1, List.forall_mem_append.mpr ⟨lw_r2, List.forall_mem_append.mpr ⟨lw_r3, lw_r4⟩⟩⟩
def RX0 : String := "LandUses$Book"
def TX0 : u_T := fun k => match k with
  | 0 => ("LandUses$Book", "rows", "[LLandUses$Line;", true)
  | _ => ("LandUses$Book", "count", "I", false)
def tyX0 : Nat → FieldType := fun k => match k with
  | 0 => .array (.object "LandUses$Line")
  | _ => .int
abbrev wsX00 : List Cond := u_ws RX0 TX0 2
theorem nmX0 : ∀ a, a < 2 → ∀ b, b < 2 → a ≠ b → (TX0 a).2.1 ≠ (TX0 b).2.1 := by decide +kernel
theorem tyX0_ok : ∀ k, k < 2 → parseFieldDescriptor (TX0 k).2.2.1 = some (tyX0 k) := by decide +kernel
abbrev cX0_init : ByteArray := prog_2_method_1_code
def yX0_init : MethodName := ⟨RX0, "<init>", "()V"⟩
abbrev cX0_countLaws : ByteArray := prog_2_method_2_code
def yX0_countLaws : MethodName := ⟨RX0, "countLaws", "()I"⟩
abbrev cX0_worthOf : ByteArray := prog_2_method_3_code
def yX0_worthOf : MethodName := ⟨RX0, "worthOf", "(LLandUses$Land;)I"⟩
abbrev cX0_worthOfPutting : ByteArray := prog_2_method_4_code
def yX0_worthOfPutting : MethodName := ⟨RX0, "worthOfPutting", "(LLandUses$Land;II)I"⟩
abbrev cX0_firstBroken : ByteArray := prog_2_method_5_code
def yX0_firstBroken : MethodName := ⟨RX0, "firstBroken", "(LLandUses$Land;)I"⟩
abbrev cX0_brokenByPair : ByteArray := prog_2_method_6_code
def yX0_brokenByPair : MethodName := ⟨RX0, "brokenByPair", "(LLandUses$Land;)I"⟩
abbrev cX0_brokenByPutting : ByteArray := prog_2_method_7_code
def yX0_brokenByPutting : MethodName := ⟨RX0, "brokenByPutting", "(LLandUses$Land;II)I"⟩
abbrev cX0_brokenByWhole : ByteArray := prog_2_method_8_code
def yX0_brokenByWhole : MethodName := ⟨RX0, "brokenByWhole", "(LLandUses$Land;)I"⟩
abbrev cX0_growInto : ByteArray := prog_2_method_9_code
def yX0_growInto : MethodName := ⟨RX0, "growInto", "(LLandUses$Uses;LLandUses$Land;)V"⟩
def RX1 : String := "LandUses$Land"
def TX1 : u_T := fun k => match k with
  | 0 => ("LandUses$Land", "uses", "LLandUses$Uses;", true)
  | 1 => ("LandUses$Land", "soils", "[I", true)
  | _ => ("LandUses$Land", "around", "[[J", true)
def tyX1 : Nat → FieldType := fun k => match k with
  | 0 => .object "LandUses$Uses"
  | 1 => .array .int
  | _ => .array (.array .long)
abbrev wsX10 : List Cond := u_ws RX1 TX1 3
theorem nmX1 : ∀ a, a < 3 → ∀ b, b < 3 → a ≠ b → (TX1 a).2.1 ≠ (TX1 b).2.1 := by decide +kernel
theorem tyX1_ok : ∀ k, k < 3 → parseFieldDescriptor (TX1 k).2.2.1 = some (tyX1 k) := by decide +kernel
abbrev cX1_init : ByteArray := prog_3_method_1_code
def yX1_init : MethodName := ⟨RX1, "<init>", "()V"⟩
abbrev cX1_init_ : ByteArray := prog_3_method_2_code
def yX1_init_ : MethodName := ⟨RX1, "<init>", "(LLandUses$Land;)V"⟩
abbrev cX1_putSoil : ByteArray := prog_3_method_3_code
def yX1_putSoil : MethodName := ⟨RX1, "putSoil", "(JI)V"⟩
abbrev cX1_countAround : ByteArray := prog_3_method_4_code
def yX1_countAround : MethodName := ⟨RX1, "countAround", "(III)I"⟩
abbrev cX1_countPairs : ByteArray := prog_3_method_5_code
def yX1_countPairs : MethodName := ⟨RX1, "countPairs", "(III)I"⟩
abbrev cX1_countOnSoil : ByteArray := prog_3_method_6_code
def yX1_countOnSoil : MethodName := ⟨RX1, "countOnSoil", "(II)I"⟩
def RX2 : String := "LandUses$Line"
def TX2 : u_T := fun k => match k with
  | 0 => ("LandUses$Line", "kind", "I", false)
  | 1 => ("LandUses$Line", "use", "I", false)
  | 2 => ("LandUses$Line", "otherUse", "I", false)
  | 3 => ("LandUses$Line", "grownUse", "I", false)
  | 4 => ("LandUses$Line", "steps", "I", false)
  | 5 => ("LandUses$Line", "leastSoil", "I", false)
  | _ => ("LandUses$Line", "number", "I", false)
def tyX2 : Nat → FieldType := fun k => match k with
  | 0 => .int
  | 1 => .int
  | 2 => .int
  | 3 => .int
  | 4 => .int
  | 5 => .int
  | _ => .int
abbrev wsX20 : List Cond := u_ws RX2 TX2 7
theorem nmX2 : ∀ a, a < 7 → ∀ b, b < 7 → a ≠ b → (TX2 a).2.1 ≠ (TX2 b).2.1 := by decide +kernel
theorem tyX2_ok : ∀ k, k < 7 → parseFieldDescriptor (TX2 k).2.2.1 = some (tyX2 k) := by decide +kernel
abbrev cX2_init : ByteArray := prog_4_method_1_code
def yX2_init : MethodName := ⟨RX2, "<init>", "()V"⟩
abbrev cX2_isLaw : ByteArray := prog_4_method_2_code
def yX2_isLaw : MethodName := ⟨RX2, "isLaw", "()Z"⟩
abbrev cX2_worthOf : ByteArray := prog_4_method_3_code
def yX2_worthOf : MethodName := ⟨RX2, "worthOf", "(LLandUses$Land;)I"⟩
abbrev cX2_worthOfPutting : ByteArray := prog_4_method_4_code
def yX2_worthOfPutting : MethodName := ⟨RX2, "worthOfPutting", "(LLandUses$Land;II)I"⟩
abbrev cX2_isBroken : ByteArray := prog_4_method_5_code
def yX2_isBroken : MethodName := ⟨RX2, "isBroken", "(LLandUses$Land;)Z"⟩
abbrev cX2_isBrokenByPair : ByteArray := prog_4_method_6_code
def yX2_isBrokenByPair : MethodName := ⟨RX2, "isBrokenByPair", "(LLandUses$Land;)Z"⟩
abbrev cX2_isBrokenByPutting : ByteArray := prog_4_method_7_code
def yX2_isBrokenByPutting : MethodName := ⟨RX2, "isBrokenByPutting", "(LLandUses$Land;II)Z"⟩
abbrev cX2_countNewPairs : ByteArray := prog_4_method_8_code
def yX2_countNewPairs : MethodName := ⟨RX2, "countNewPairs", "(JLLandUses$Uses;I)I"⟩
abbrev cX2_isBrokenByWhole : ByteArray := prog_4_method_9_code
def yX2_isBrokenByWhole : MethodName := ⟨RX2, "isBrokenByWhole", "(LLandUses$Land;)Z"⟩
abbrev cX2_growsOn : ByteArray := prog_4_method_10_code
def yX2_growsOn : MethodName := ⟨RX2, "growsOn", "(LLandUses$Land;I)Z"⟩
def RX3 : String := "LandUses$Reader"
def TX3 : u_T := fun k => match k with
  | 0 => ("LandUses$Reader", "tape", "LLandUses$Tape;", true)
  | 1 => ("LandUses$Reader", "place", "I", false)
  | _ => ("LandUses$Reader", "wrongPlace", "I", false)
def tyX3 : Nat → FieldType := fun k => match k with
  | 0 => .object "LandUses$Tape"
  | 1 => .int
  | _ => .int
abbrev wsX30 : List Cond := u_ws RX3 TX3 3
theorem nmX3 : ∀ a, a < 3 → ∀ b, b < 3 → a ≠ b → (TX3 a).2.1 ≠ (TX3 b).2.1 := by decide +kernel
theorem tyX3_ok : ∀ k, k < 3 → parseFieldDescriptor (TX3 k).2.2.1 = some (tyX3 k) := by decide +kernel
abbrev cX3_init : ByteArray := prog_5_method_1_code
def yX3_init : MethodName := ⟨RX3, "<init>", "(LLandUses$Tape;)V"⟩
abbrev cX3_readInto : ByteArray := prog_5_method_2_code
def yX3_readInto : MethodName := ⟨RX3, "readInto", "(LLandUses$Book;)I"⟩
abbrev cX3_readSemicolon : ByteArray := prog_5_method_3_code
def yX3_readSemicolon : MethodName := ⟨RX3, "readSemicolon", "()Z"⟩
abbrev cX3_readLine : ByteArray := prog_5_method_4_code
def yX3_readLine : MethodName := ⟨RX3, "readLine", "(LLandUses$Line;)V"⟩
abbrev cX3_readWorth : ByteArray := prog_5_method_5_code
def yX3_readWorth : MethodName := ⟨RX3, "readWorth", "(LLandUses$Line;)V"⟩
abbrev cX3_readLaw : ByteArray := prog_5_method_6_code
def yX3_readLaw : MethodName := ⟨RX3, "readLaw", "(LLandUses$Line;)V"⟩
abbrev cX3_readGrow : ByteArray := prog_5_method_7_code
def yX3_readGrow : MethodName := ⟨RX3, "readGrow", "(LLandUses$Line;)V"⟩
abbrev cX3_readUse : ByteArray := prog_5_method_8_code
def yX3_readUse : MethodName := ⟨RX3, "readUse", "()I"⟩
abbrev cX3_readWord : ByteArray := prog_5_method_9_code
def yX3_readWord : MethodName := ⟨RX3, "readWord", "(Ljava/lang/String;)V"⟩
abbrev cX3_readNumber : ByteArray := prog_5_method_10_code
def yX3_readNumber : MethodName := ⟨RX3, "readNumber", "(II)I"⟩
abbrev cX3_skipWord : ByteArray := prog_5_method_11_code
def yX3_skipWord : MethodName := ⟨RX3, "skipWord", "(Ljava/lang/String;)Z"⟩
abbrev cX3_refuseNext : ByteArray := prog_5_method_12_code
def yX3_refuseNext : MethodName := ⟨RX3, "refuseNext", "()V"⟩
abbrev cX3_skipBlanks : ByteArray := prog_5_method_13_code
def yX3_skipBlanks : MethodName := ⟨RX3, "skipBlanks", "()V"⟩
abbrev cX3_runLength : ByteArray := prog_5_method_14_code
def yX3_runLength : MethodName := ⟨RX3, "runLength", "(CC)I"⟩
def RX4 : String := "LandUses$Search"
def TX4 : u_T := fun k => match k with
  | 0 => ("LandUses$Search", "trial", "LLandUses$Land;", true)
  | 1 => ("LandUses$Search", "squares", "[I", true)
  | 2 => ("LandUses$Search", "bestUses", "LLandUses$Uses;", true)
  | 3 => ("LandUses$Search", "worthBreaking", "[I", true)
  | 4 => ("LandUses$Search", "lines", "LLandUses$Book;", false)
  | 5 => ("LandUses$Search", "squareCount", "I", false)
  | 6 => ("LandUses$Search", "found", "Z", false)
  | _ => ("LandUses$Search", "bestWorth", "I", false)
def tyX4 : Nat → FieldType := fun k => match k with
  | 0 => .object "LandUses$Land"
  | 1 => .array .int
  | 2 => .object "LandUses$Uses"
  | 3 => .array .int
  | 4 => .object "LandUses$Book"
  | 5 => .int
  | 6 => .boolean
  | _ => .int
abbrev wsX40 : List Cond := u_ws RX4 TX4 8
theorem nmX4 : ∀ a, a < 8 → ∀ b, b < 8 → a ≠ b → (TX4 a).2.1 ≠ (TX4 b).2.1 := by decide +kernel
theorem tyX4_ok : ∀ k, k < 8 → parseFieldDescriptor (TX4 k).2.2.1 = some (tyX4 k) := by decide +kernel
abbrev cX4_init : ByteArray := prog_6_method_1_code
def yX4_init : MethodName := ⟨RX4, "<init>", "(LLandUses$Land;LLandUses$Book;)V"⟩
abbrev cX4_run : ByteArray := prog_6_method_2_code
def yX4_run : MethodName := ⟨RX4, "run", "(LLandUses$Land;LLandUses$Book;J)V"⟩
abbrev cX4_listSquares : ByteArray := prog_6_method_3_code
def yX4_listSquares : MethodName := ⟨RX4, "listSquares", "(J)V"⟩
abbrev cX4_putFrom : ByteArray := prog_6_method_4_code
def yX4_putFrom : MethodName := ⟨RX4, "putFrom", "(III)V"⟩
abbrev cX4_judge : ByteArray := prog_6_method_5_code
def yX4_judge : MethodName := ⟨RX4, "judge", "(II)V"⟩
def RX5 : String := "LandUses$Squares"
def TX5 : u_T := fun k => match k with
  | _ => ("", "", "", false)
def tyX5 : Nat → FieldType := fun k => match k with
  | _ => .int
abbrev wsX50 : List Cond := u_ws RX5 TX5 0
theorem nmX5 : ∀ a, a < 0 → ∀ b, b < 0 → a ≠ b → (TX5 a).2.1 ≠ (TX5 b).2.1 := by decide +kernel
theorem tyX5_ok : ∀ k, k < 0 → parseFieldDescriptor (TX5 k).2.2.1 = some (tyX5 k) := by decide +kernel
abbrev cX5_only : ByteArray := prog_7_method_2_code
def yX5_only : MethodName := ⟨RX5, "only", "(I)J"⟩
abbrev cX5_has : ByteArray := prog_7_method_3_code
def yX5_has : MethodName := ⟨RX5, "has", "(JI)Z"⟩
abbrev cX5_rectangle : ByteArray := prog_7_method_4_code
def yX5_rectangle : MethodName := ⟨RX5, "rectangle", "(II)J"⟩
abbrev cX5_around : ByteArray := prog_7_method_5_code
def yX5_around : MethodName := ⟨RX5, "around", "(II)J"⟩
abbrev cX5_beside : ByteArray := prog_7_method_6_code
def yX5_beside : MethodName := ⟨RX5, "beside", "(J)J"⟩
abbrev cX5_isJoined : ByteArray := prog_7_method_7_code
def yX5_isJoined : MethodName := ⟨RX5, "isJoined", "(J)Z"⟩
abbrev cX5_stepsToAll : ByteArray := prog_7_method_8_code
def yX5_stepsToAll : MethodName := ⟨RX5, "stepsToAll", "(JIJ)I"⟩
def RX6 : String := "LandUses$Tape"
def TX6 : u_T := fun k => match k with
  | 0 => ("LandUses$Tape", "bytes", "[B", true)
  | _ => ("LandUses$Tape", "length", "I", false)
def tyX6 : Nat → FieldType := fun k => match k with
  | 0 => .array .byte
  | _ => .int
abbrev wsX60 : List Cond := u_ws RX6 TX6 2
theorem nmX6 : ∀ a, a < 2 → ∀ b, b < 2 → a ≠ b → (TX6 a).2.1 ≠ (TX6 b).2.1 := by decide +kernel
theorem tyX6_ok : ∀ k, k < 2 → parseFieldDescriptor (TX6 k).2.2.1 = some (tyX6 k) := by decide +kernel
abbrev cX6_init : ByteArray := prog_8_method_1_code
def yX6_init : MethodName := ⟨RX6, "<init>", "()V"⟩
abbrev cX6_hasRoom : ByteArray := prog_8_method_2_code
def yX6_hasRoom : MethodName := ⟨RX6, "hasRoom", "()Z"⟩
abbrev cX6_append : ByteArray := prog_8_method_3_code
def yX6_append : MethodName := ⟨RX6, "append", "(I)V"⟩
abbrev cX6_at : ByteArray := prog_8_method_4_code
def yX6_at : MethodName := ⟨RX6, "at", "(I)I"⟩
def RX7 : String := "LandUses$Uses"
def TX7 : u_T := fun k => match k with
  | _ => ("LandUses$Uses", "sets", "[J", true)
def tyX7 : Nat → FieldType := fun k => match k with
  | _ => .array .long
abbrev wsX70 : List Cond := u_ws RX7 TX7 1
theorem nmX7 : ∀ a, a < 1 → ∀ b, b < 1 → a ≠ b → (TX7 a).2.1 ≠ (TX7 b).2.1 := by decide +kernel
theorem tyX7_ok : ∀ k, k < 1 → parseFieldDescriptor (TX7 k).2.2.1 = some (tyX7 k) := by decide +kernel
abbrev cX7_init : ByteArray := prog_9_method_1_code
def yX7_init : MethodName := ⟨RX7, "<init>", "()V"⟩
abbrev cX7_of : ByteArray := prog_9_method_2_code
def yX7_of : MethodName := ⟨RX7, "of", "(I)J"⟩
abbrev cX7_useOf : ByteArray := prog_9_method_3_code
def yX7_useOf : MethodName := ⟨RX7, "useOf", "(I)I"⟩
abbrev cX7_put : ByteArray := prog_9_method_4_code
def yX7_put : MethodName := ⟨RX7, "put", "(JI)I"⟩
abbrev cX7_lift : ByteArray := prog_9_method_5_code
def yX7_lift : MethodName := ⟨RX7, "lift", "(J)V"⟩
abbrev cX7_become : ByteArray := prog_9_method_6_code
def yX7_become : MethodName := ⟨RX7, "become", "(LLandUses$Uses;)V"⟩
abbrev cX7_differencesFrom : ByteArray := prog_9_method_7_code
def yX7_differencesFrom : MethodName := ⟨RX7, "differencesFrom", "(LLandUses$Uses;)I"⟩
abbrev cX7_likeBeside : ByteArray := prog_9_method_8_code
def yX7_likeBeside : MethodName := ⟨RX7, "likeBeside", "(I)I"⟩
def RX8 : String := "LandUses"
def TX8 : u_T := fun k => match k with
  | 0 => ("LandUses", "tape", "LLandUses$Tape;", true)
  | 1 => ("LandUses", "reader", "LLandUses$Reader;", true)
  | 2 => ("LandUses", "land", "LLandUses$Land;", true)
  | 3 => ("LandUses", "search", "LLandUses$Search;", true)
  | 4 => ("LandUses", "nextUses", "LLandUses$Uses;", true)
  | 5 => ("LandUses", "plans", "[LLandUses$Uses;", true)
  | 6 => ("LandUses", "lines", "LLandUses$Book;", false)
  | 7 => ("LandUses", "spareLines", "LLandUses$Book;", false)
  | 8 => ("LandUses", "freeSquares", "J", false)
  | 9 => ("LandUses", "gateSquare", "I", false)
  | 10 => ("LandUses", "planCount", "I", false)
  | 11 => ("LandUses", "year", "I", false)
  | 12 => ("LandUses", "wrongByte", "I", false)
  | _ => ("LandUses", "searched", "Z", false)
def tyX8 : Nat → FieldType := fun k => match k with
  | 0 => .object "LandUses$Tape"
  | 1 => .object "LandUses$Reader"
  | 2 => .object "LandUses$Land"
  | 3 => .object "LandUses$Search"
  | 4 => .object "LandUses$Uses"
  | 5 => .array (.object "LandUses$Uses")
  | 6 => .object "LandUses$Book"
  | 7 => .object "LandUses$Book"
  | 8 => .long
  | 9 => .int
  | 10 => .int
  | 11 => .int
  | 12 => .int
  | _ => .boolean
abbrev wsX80 : List Cond := u_ws RX8 TX8 14
theorem nmX8 : ∀ a, a < 14 → ∀ b, b < 14 → a ≠ b → (TX8 a).2.1 ≠ (TX8 b).2.1 := by decide +kernel
theorem tyX8_ok : ∀ k, k < 14 → parseFieldDescriptor (TX8 k).2.2.1 = some (tyX8 k) := by decide +kernel
abbrev cX8_init : ByteArray := prog_1_method_1_code
def yX8_init : MethodName := ⟨RX8, "<init>", "()V"⟩
abbrev cX8_feed : ByteArray := prog_1_method_2_code
def yX8_feed : MethodName := ⟨RX8, "feed", "(IIIII)I"⟩
abbrev cX8_end : ByteArray := prog_1_method_3_code
def yX8_end : MethodName := ⟨RX8, "end", "(I)Z"⟩
abbrev cX8_use : ByteArray := prog_1_method_4_code
def yX8_use : MethodName := ⟨RX8, "use", "(III)I"⟩
abbrev cX8_soil : ByteArray := prog_1_method_5_code
def yX8_soil : MethodName := ⟨RX8, "soil", "(III)V"⟩
abbrev cX8_free : ByteArray := prog_1_method_6_code
def yX8_free : MethodName := ⟨RX8, "free", "(IZ)Z"⟩
abbrev cX8_gate : ByteArray := prog_1_method_7_code
def yX8_gate : MethodName := ⟨RX8, "gate", "(I)V"⟩
abbrev cX8_book : ByteArray := prog_1_method_8_code
def yX8_book : MethodName := ⟨RX8, "book", "()I"⟩
abbrev cX8_fault : ByteArray := prog_1_method_9_code
def yX8_fault : MethodName := ⟨RX8, "fault", "()I"⟩
abbrev cX8_worth : ByteArray := prog_1_method_10_code
def yX8_worth : MethodName := ⟨RX8, "worth", "()I"⟩
abbrev cX8_adds : ByteArray := prog_1_method_11_code
def yX8_adds : MethodName := ⟨RX8, "adds", "(I)I"⟩
abbrev cX8_broken : ByteArray := prog_1_method_12_code
def yX8_broken : MethodName := ⟨RX8, "broken", "()I"⟩
abbrev cX8_years : ByteArray := prog_1_method_13_code
def yX8_years : MethodName := ⟨RX8, "years", "(I)I"⟩
abbrev cX8_can : ByteArray := prog_1_method_14_code
def yX8_can : MethodName := ⟨RX8, "can", "()Z"⟩
abbrev cX8_best : ByteArray := prog_1_method_15_code
def yX8_best : MethodName := ⟨RX8, "best", "()I"⟩
abbrev cX8_given : ByteArray := prog_1_method_16_code
def yX8_given : MethodName := ⟨RX8, "given", "(I)I"⟩
abbrev cX8_take : ByteArray := prog_1_method_17_code
def yX8_take : MethodName := ⟨RX8, "take", "()Z"⟩
abbrev cX8_cost : ByteArray := prog_1_method_18_code
def yX8_cost : MethodName := ⟨RX8, "cost", "(I)I"⟩
abbrev cX8_look : ByteArray := prog_1_method_19_code
def yX8_look : MethodName := ⟨RX8, "look", "(II)I"⟩
abbrev cX8_keep : ByteArray := prog_1_method_20_code
def yX8_keep : MethodName := ⟨RX8, "keep", "()I"⟩
abbrev cX8_unlike : ByteArray := prog_1_method_21_code
def yX8_unlike : MethodName := ⟨RX8, "unlike", "(II)I"⟩
abbrev cX8_back : ByteArray := prog_1_method_22_code
def yX8_back : MethodName := ⟨RX8, "back", "(I)I"⟩
abbrev cX8_far : ByteArray := prog_1_method_23_code
def yX8_far : MethodName := ⟨RX8, "far", "()I"⟩
abbrev cX8_count : ByteArray := prog_1_method_24_code
def yX8_count : MethodName := ⟨RX8, "count", "(I)I"⟩
abbrev cX8_bestSearch : ByteArray := prog_1_method_25_code
def yX8_bestSearch : MethodName := ⟨RX8, "bestSearch", "()LLandUses$Search;"⟩
abbrev cX8_planOrLand : ByteArray := prog_1_method_26_code
def yX8_planOrLand : MethodName := ⟨RX8, "planOrLand", "(I)LLandUses$Uses;"⟩
abbrev cX8_checkPlan : ByteArray := prog_1_method_27_code
def yX8_checkPlan : MethodName := ⟨RX8, "checkPlan", "(I)V"⟩
abbrev cX8_checkLine : ByteArray := prog_1_method_28_code
def yX8_checkLine : MethodName := ⟨RX8, "checkLine", "(I)V"⟩
abbrev cX8_checkSquare : ByteArray := prog_1_method_29_code
def yX8_checkSquare : MethodName := ⟨RX8, "checkSquare", "(I)V"⟩
def RX9 : String := "LandUsesModel"
def TX9 : u_T := fun k => match k with
  | 0 => ("LandUsesModel", "thrown", "I", false)
  | 1 => ("LandUsesModel", "use", "[I", true)
  | 2 => ("LandUsesModel", "soil", "[I", true)
  | 3 => ("LandUsesModel", "isFree", "[Z", true)
  | 4 => ("LandUsesModel", "frees", "I", false)
  | 5 => ("LandUsesModel", "gate", "I", false)
  | 6 => ("LandUsesModel", "year", "I", false)
  | 7 => ("LandUsesModel", "sort", "[I", true)
  | 8 => ("LandUsesModel", "one", "[I", true)
  | 9 => ("LandUsesModel", "two", "[I", true)
  | 10 => ("LandUsesModel", "three", "[I", true)
  | 11 => ("LandUsesModel", "worth", "[I", true)
  | 12 => ("LandUsesModel", "steps", "[I", true)
  | 13 => ("LandUsesModel", "least", "[I", true)
  | 14 => ("LandUsesModel", "lines", "I", false)
  | 15 => ("LandUsesModel", "plan", "[I", true)
  | 16 => ("LandUsesModel", "plans", "I", false)
  | 17 => ("LandUsesModel", "tape", "[B", true)
  | 18 => ("LandUsesModel", "taped", "I", false)
  | 19 => ("LandUsesModel", "point", "I", false)
  | 20 => ("LandUsesModel", "end", "I", false)
  | 21 => ("LandUsesModel", "begin", "I", false)
  | 22 => ("LandUsesModel", "faultAt", "I", false)
  | 23 => ("LandUsesModel", "five", "[I", true)
  | 24 => ("LandUsesModel", "isMet", "[Z", true)
  | 25 => ("LandUsesModel", "next", "[I", true)
  | 26 => ("LandUsesModel", "place", "[I", true)
  | 27 => ("LandUsesModel", "single", "[I", true)
  | 28 => ("LandUsesModel", "both", "[I", true)
  | 29 => ("LandUsesModel", "was", "[I", true)
  | 30 => ("LandUsesModel", "given", "[I", true)
  | 31 => ("LandUsesModel", "bestWorth", "I", false)
  | _ => ("LandUsesModel", "off", "[I", true)
def tyX9 : Nat → FieldType := fun k => match k with
  | 0 => .int
  | 1 => .array .int
  | 2 => .array .int
  | 3 => .array .boolean
  | 4 => .int
  | 5 => .int
  | 6 => .int
  | 7 => .array .int
  | 8 => .array .int
  | 9 => .array .int
  | 10 => .array .int
  | 11 => .array .int
  | 12 => .array .int
  | 13 => .array .int
  | 14 => .int
  | 15 => .array .int
  | 16 => .int
  | 17 => .array .byte
  | 18 => .int
  | 19 => .int
  | 20 => .int
  | 21 => .int
  | 22 => .int
  | 23 => .array .int
  | 24 => .array .boolean
  | 25 => .array .int
  | 26 => .array .int
  | 27 => .array .int
  | 28 => .array .int
  | 29 => .array .int
  | 30 => .array .int
  | 31 => .int
  | _ => .array .int
abbrev wsX90 : List Cond := u_ws RX9 TX9 33
theorem nmX9 : ∀ a, a < 33 → ∀ b, b < 33 → a ≠ b → (TX9 a).2.1 ≠ (TX9 b).2.1 := by decide +kernel
theorem tyX9_ok : ∀ k, k < 33 → parseFieldDescriptor (TX9 k).2.2.1 = some (tyX9 k) := by decide +kernel
abbrev cX9_init : ByteArray := prog_11_method_1_code
def yX9_init : MethodName := ⟨RX9, "<init>", "()V"⟩
abbrev cX9_thrown : ByteArray := prog_11_method_2_code
def yX9_thrown : MethodName := ⟨RX9, "thrown", "()I"⟩
abbrev cX9_throwsIf : ByteArray := prog_11_method_3_code
def yX9_throwsIf : MethodName := ⟨RX9, "throwsIf", "(ZI)Z"⟩
abbrev cX9_in : ByteArray := prog_11_method_4_code
def yX9_in : MethodName := ⟨RX9, "in", "(III)Z"⟩
abbrev cX9_noSquare : ByteArray := prog_11_method_5_code
def yX9_noSquare : MethodName := ⟨RX9, "noSquare", "(I)Z"⟩
abbrev cX9_isIn : ByteArray := prog_11_method_6_code
def yX9_isIn : MethodName := ⟨RX9, "isIn", "(III)Z"⟩
abbrev cX9_use : ByteArray := prog_11_method_7_code
def yX9_use : MethodName := ⟨RX9, "use", "(III)I"⟩
abbrev cX9_soil : ByteArray := prog_11_method_8_code
def yX9_soil : MethodName := ⟨RX9, "soil", "(III)V"⟩
abbrev cX9_free : ByteArray := prog_11_method_9_code
def yX9_free : MethodName := ⟨RX9, "free", "(IZ)Z"⟩
abbrev cX9_gate : ByteArray := prog_11_method_10_code
def yX9_gate : MethodName := ⟨RX9, "gate", "(I)V"⟩
abbrev cX9_apart : ByteArray := prog_11_method_11_code
def yX9_apart : MethodName := ⟨RX9, "apart", "(II)I"⟩
abbrev cX9_beside : ByteArray := prog_11_method_12_code
def yX9_beside : MethodName := ⟨RX9, "beside", "(II)I"⟩
abbrev cX9_feed : ByteArray := prog_11_method_13_code
def yX9_feed : MethodName := ⟨RX9, "feed", "(IIIII)I"⟩
abbrev cX9_end : ByteArray := prog_11_method_14_code
def yX9_end : MethodName := ⟨RX9, "end", "(I)Z"⟩
abbrev cX9_isAt : ByteArray := prog_11_method_15_code
def yX9_isAt : MethodName := ⟨RX9, "isAt", "(II)Z"⟩
abbrev cX9_blanks : ByteArray := prog_11_method_16_code
def yX9_blanks : MethodName := ⟨RX9, "blanks", "()V"⟩
abbrev cX9_word : ByteArray := prog_11_method_17_code
def yX9_word : MethodName := ⟨RX9, "word", "()V"⟩
abbrev cX9_isWord : ByteArray := prog_11_method_18_code
def yX9_isWord : MethodName := ⟨RX9, "isWord", "(Ljava/lang/String;)Z"⟩
abbrev cX9_need : ByteArray := prog_11_method_19_code
def yX9_need : MethodName := ⟨RX9, "need", "(Ljava/lang/String;)Z"⟩
abbrev cX9_number : ByteArray := prog_11_method_20_code
def yX9_number : MethodName := ⟨RX9, "number", "(II)I"⟩
abbrev cX9_useOf : ByteArray := prog_11_method_21_code
def yX9_useOf : MethodName := ⟨RX9, "useOf", "()I"⟩
abbrev cX9_readUse : ByteArray := prog_11_method_22_code
def yX9_readUse : MethodName := ⟨RX9, "readUse", "()I"⟩
abbrev cX9_readWorth : ByteArray := prog_11_method_23_code
def yX9_readWorth : MethodName := ⟨RX9, "readWorth", "(I)Z"⟩
abbrev cX9_readLaw : ByteArray := prog_11_method_24_code
def yX9_readLaw : MethodName := ⟨RX9, "readLaw", "(I)Z"⟩
abbrev cX9_readGrow : ByteArray := prog_11_method_25_code
def yX9_readGrow : MethodName := ⟨RX9, "readGrow", "(I)Z"⟩
abbrev cX9_readLine : ByteArray := prog_11_method_26_code
def yX9_readLine : MethodName := ⟨RX9, "readLine", "(I)Z"⟩
abbrev cX9_readAll : ByteArray := prog_11_method_27_code
def yX9_readAll : MethodName := ⟨RX9, "readAll", "()I"⟩
abbrev cX9_book : ByteArray := prog_11_method_28_code
def yX9_book : MethodName := ⟨RX9, "book", "()I"⟩
abbrev cX9_fault : ByteArray := prog_11_method_29_code
def yX9_fault : MethodName := ⟨RX9, "fault", "()I"⟩
abbrev cX9_pair : ByteArray := prog_11_method_30_code
def yX9_pair : MethodName := ⟨RX9, "pair", "(IIIII)I"⟩
abbrev cX9_alone : ByteArray := prog_11_method_31_code
def yX9_alone : MethodName := ⟨RX9, "alone", "(III)I"⟩
abbrev cX9_addsOf : ByteArray := prog_11_method_32_code
def yX9_addsOf : MethodName := ⟨RX9, "addsOf", "(I)I"⟩
abbrev cX9_worthOf : ByteArray := prog_11_method_33_code
def yX9_worthOf : MethodName := ⟨RX9, "worthOf", "()I"⟩
abbrev cX9_worth : ByteArray := prog_11_method_34_code
def yX9_worth : MethodName := ⟨RX9, "worth", "()I"⟩
abbrev cX9_adds : ByteArray := prog_11_method_35_code
def yX9_adds : MethodName := ⟨RX9, "adds", "(I)I"⟩
abbrev cX9_isLaw : ByteArray := prog_11_method_36_code
def yX9_isLaw : MethodName := ⟨RX9, "isLaw", "(I)Z"⟩
abbrev cX9_countOf : ByteArray := prog_11_method_37_code
def yX9_countOf : MethodName := ⟨RX9, "countOf", "(I)I"⟩
abbrev cX9_areApart : ByteArray := prog_11_method_38_code
def yX9_areApart : MethodName := ⟨RX9, "areApart", "(I)Z"⟩
abbrev cX9_areJoined : ByteArray := prog_11_method_39_code
def yX9_areJoined : MethodName := ⟨RX9, "areJoined", "(I)Z"⟩
abbrev cX9_holds : ByteArray := prog_11_method_40_code
def yX9_holds : MethodName := ⟨RX9, "holds", "(I)Z"⟩
abbrev cX9_broken : ByteArray := prog_11_method_41_code
def yX9_broken : MethodName := ⟨RX9, "broken", "()I"⟩
abbrev cX9_grows : ByteArray := prog_11_method_42_code
def yX9_grows : MethodName := ⟨RX9, "grows", "(II)Z"⟩
abbrev cX9_years : ByteArray := prog_11_method_43_code
def yX9_years : MethodName := ⟨RX9, "years", "(I)I"⟩
abbrev cX9_bothAt : ByteArray := prog_11_method_44_code
def yX9_bothAt : MethodName := ⟨RX9, "bothAt", "(IIII)I"⟩
abbrev cX9_weighs : ByteArray := prog_11_method_45_code
def yX9_weighs : MethodName := ⟨RX9, "weighs", "()V"⟩
abbrev cX9_others : ByteArray := prog_11_method_46_code
def yX9_others : MethodName := ⟨RX9, "others", "()I"⟩
abbrev cX9_allHold : ByteArray := prog_11_method_47_code
def yX9_allHold : MethodName := ⟨RX9, "allHold", "(I)Z"⟩
abbrev cX9_seeks : ByteArray := prog_11_method_48_code
def yX9_seeks : MethodName := ⟨RX9, "seeks", "(I)Z"⟩
abbrev cX9_can : ByteArray := prog_11_method_49_code
def yX9_can : MethodName := ⟨RX9, "can", "()Z"⟩
abbrev cX9_best : ByteArray := prog_11_method_50_code
def yX9_best : MethodName := ⟨RX9, "best", "()I"⟩
abbrev cX9_given : ByteArray := prog_11_method_51_code
def yX9_given : MethodName := ⟨RX9, "given", "(I)I"⟩
abbrev cX9_take : ByteArray := prog_11_method_52_code
def yX9_take : MethodName := ⟨RX9, "take", "()Z"⟩
abbrev cX9_cost : ByteArray := prog_11_method_53_code
def yX9_cost : MethodName := ⟨RX9, "cost", "(I)I"⟩
abbrev cX9_look : ByteArray := prog_11_method_54_code
def yX9_look : MethodName := ⟨RX9, "look", "(II)I"⟩
abbrev cX9_keep : ByteArray := prog_11_method_55_code
def yX9_keep : MethodName := ⟨RX9, "keep", "()I"⟩
abbrev cX9_useIn : ByteArray := prog_11_method_56_code
def yX9_useIn : MethodName := ⟨RX9, "useIn", "(II)I"⟩
abbrev cX9_unlike : ByteArray := prog_11_method_57_code
def yX9_unlike : MethodName := ⟨RX9, "unlike", "(II)I"⟩
abbrev cX9_back : ByteArray := prog_11_method_58_code
def yX9_back : MethodName := ⟨RX9, "back", "(I)I"⟩
abbrev cX9_far : ByteArray := prog_11_method_59_code
def yX9_far : MethodName := ⟨RX9, "far", "()I"⟩
abbrev cX9_count : ByteArray := prog_11_method_60_code
def yX9_count : MethodName := ⟨RX9, "count", "(I)I"⟩
def RJ6 : String := "java/lang/Integer"
def TJ6 : u_T := fun k => match k with
  | _ => ("", "", "", false)
def tyJ6 : Nat → FieldType := fun k => match k with
  | _ => .int
abbrev wsJ60 : List Cond := u_ws RJ6 TJ6 0
theorem nmJ6 : ∀ a, a < 0 → ∀ b, b < 0 → a ≠ b → (TJ6 a).2.1 ≠ (TJ6 b).2.1 := by decide +kernel
theorem tyJ6_ok : ∀ k, k < 0 → parseFieldDescriptor (TJ6 k).2.2.1 = some (tyJ6 k) := by decide +kernel
abbrev cJ6_bitCount_0f7a4 : ByteArray := prog_15_method_49_code
def yJ6_bitCount_0f7a4 : MethodName := ⟨RJ6, "bitCount", "(I)I"⟩
def RJ13 : String := "java/lang/Long"
def TJ13 : u_T := fun k => match k with
  | _ => ("", "", "", false)
def tyJ13 : Nat → FieldType := fun k => match k with
  | _ => .int
abbrev wsJ130 : List Cond := u_ws RJ13 TJ13 0
theorem nmJ13 : ∀ a, a < 0 → ∀ b, b < 0 → a ≠ b → (TJ13 a).2.1 ≠ (TJ13 b).2.1 := by decide +kernel
theorem tyJ13_ok : ∀ k, k < 0 → parseFieldDescriptor (TJ13 k).2.2.1 = some (tyJ13 k) := by decide +kernel
abbrev cJ13_bitCount_95d88 : ByteArray := prog_16_method_50_code
def yJ13_bitCount_95d88 : MethodName := ⟨RJ13, "bitCount", "(J)I"⟩
def RJ9 : String := "java/lang/Math"
def TJ9 : u_T := fun k => match k with
  | _ => ("", "", "", false)
def tyJ9 : Nat → FieldType := fun k => match k with
  | _ => .int
abbrev wsJ90 : List Cond := u_ws RJ9 TJ9 0
theorem nmJ9 : ∀ a, a < 0 → ∀ b, b < 0 → a ≠ b → (TJ9 a).2.1 ≠ (TJ9 b).2.1 := by decide +kernel
theorem tyJ9_ok : ∀ k, k < 0 → parseFieldDescriptor (TJ9 k).2.2.1 = some (tyJ9 k) := by decide +kernel
abbrev cJ9_abs_0f7a4 : ByteArray := prog_17_method_59_code
def yJ9_abs_0f7a4 : MethodName := ⟨RJ9, "abs", "(I)I"⟩
abbrev cJ9_max_7cf53 : ByteArray := prog_17_method_65_code
def yJ9_max_7cf53 : MethodName := ⟨RJ9, "max", "(II)I"⟩
abbrev cJ9_min_7cf53 : ByteArray := prog_17_method_69_code
def yJ9_min_7cf53 : MethodName := ⟨RJ9, "min", "(II)I"⟩
def RJ0 : String := "java/lang/String"
def TJ0 : u_T := fun k => match k with
  | _ => ("", "", "", false)
def tyJ0 : Nat → FieldType := fun k => match k with
  | _ => .int
abbrev wsJ00 : List Cond := u_ws RJ0 TJ0 0
theorem nmJ0 : ∀ a, a < 0 → ∀ b, b < 0 → a ≠ b → (TJ0 a).2.1 ≠ (TJ0 b).2.1 := by decide +kernel
theorem tyJ0_ok : ∀ k, k < 0 → parseFieldDescriptor (TJ0 k).2.2.1 = some (tyJ0 k) := by decide +kernel
abbrev cJ0_length_8abf5 : ByteArray := prog_19_method_54_code
def yJ0_length_8abf5 : MethodName := ⟨RJ0, "length", "()I"⟩
abbrev cJ0_charAt_5068e : ByteArray := prog_19_method_56_code
def yJ0_charAt_5068e : MethodName := ⟨RJ0, "charAt", "(I)C"⟩
abbrev cJ0_coder_7d493 : ByteArray := prog_19_method_152_code
def yJ0_coder_7d493 : MethodName := ⟨RJ0, "coder", "()B"⟩
abbrev cJ0_isLatin1_aae02 : ByteArray := prog_19_method_154_code
def yJ0_isLatin1_aae02 : MethodName := ⟨RJ0, "isLatin1", "()Z"⟩
abbrev cJ0_checkIndex_df160 : ByteArray := prog_19_method_155_code
def yJ0_checkIndex_df160 : MethodName := ⟨RJ0, "checkIndex", "(II)V"⟩
def RJ1 : String := "java/lang/StringLatin1"
def TJ1 : u_T := fun k => match k with
  | _ => ("", "", "", false)
def tyJ1 : Nat → FieldType := fun k => match k with
  | _ => .int
abbrev wsJ10 : List Cond := u_ws RJ1 TJ1 0
theorem nmJ1 : ∀ a, a < 0 → ∀ b, b < 0 → a ≠ b → (TJ1 a).2.1 ≠ (TJ1 b).2.1 := by decide +kernel
theorem tyJ1_ok : ∀ k, k < 0 → parseFieldDescriptor (TJ1 k).2.2.1 = some (tyJ1 k) := by decide +kernel
abbrev cJ1_charAt_3b067 : ByteArray := prog_20_method_2_code
def yJ1_charAt_3b067 : MethodName := ⟨RJ1, "charAt", "([BI)C"⟩
def RJ2 : String := "java/lang/StringUTF16"
def TJ2 : u_T := fun k => match k with
  | _ => ("", "", "", false)
def tyJ2 : Nat → FieldType := fun k => match k with
  | _ => .int
abbrev wsJ20 : List Cond := u_ws RJ2 TJ2 0
theorem nmJ2 : ∀ a, a < 0 → ∀ b, b < 0 → a ≠ b → (TJ2 a).2.1 ≠ (TJ2 b).2.1 := by decide +kernel
theorem tyJ2_ok : ∀ k, k < 0 → parseFieldDescriptor (TJ2 k).2.2.1 = some (tyJ2 k) := by decide +kernel
abbrev cJ2_getChar_3b067 : ByteArray := prog_21_method_5_code
def yJ2_getChar_3b067 : MethodName := ⟨RJ2, "getChar", "([BI)C"⟩
abbrev cJ2_length_9d52b : ByteArray := prog_21_method_6_code
def yJ2_length_9d52b : MethodName := ⟨RJ2, "length", "([B)I"⟩
abbrev cJ2_charAt_3b067 : ByteArray := prog_21_method_83_code
def yJ2_charAt_3b067 : MethodName := ⟨RJ2, "charAt", "([BI)C"⟩
abbrev cJ2_checkIndex_2214a : ByteArray := prog_21_method_91_code
def yJ2_checkIndex_2214a : MethodName := ⟨RJ2, "checkIndex", "(I[B)V"⟩
def RJ3 : String := "jdk/internal/util/Preconditions"
def TJ3 : u_T := fun k => match k with
  | _ => ("", "", "", false)
def tyJ3 : Nat → FieldType := fun k => match k with
  | _ => .int
abbrev wsJ30 : List Cond := u_ws RJ3 TJ3 0
theorem nmJ3 : ∀ a, a < 0 → ∀ b, b < 0 → a ≠ b → (TJ3 a).2.1 ≠ (TJ3 b).2.1 := by decide +kernel
theorem tyJ3_ok : ∀ k, k < 0 → parseFieldDescriptor (TJ3 k).2.2.1 = some (tyJ3 k) := by decide +kernel
abbrev cJ3_checkIndex_8e157 : ByteArray := prog_24_method_11_code
def yJ3_checkIndex_8e157 : MethodName := ⟨RJ3, "checkIndex", "(IILjava/util/function/BiFunction;)I"⟩
def RL : String := "LandUsesLaw"
abbrev cL_use : ByteArray := method_3_code
def yL_use : MethodName := ⟨RL, "use", "(LLandUses;III[J)I"⟩
abbrev cL_soil : ByteArray := method_4_code
def yL_soil : MethodName := ⟨RL, "soil", "(LLandUses;III)I"⟩
abbrev cL_free : ByteArray := method_5_code
def yL_free : MethodName := ⟨RL, "free", "(LLandUses;IZ[J)I"⟩
abbrev cL_gate : ByteArray := method_6_code
def yL_gate : MethodName := ⟨RL, "gate", "(LLandUses;I)I"⟩
abbrev cL_book : ByteArray := method_7_code
def yL_book : MethodName := ⟨RL, "book", "(LLandUses;[J)I"⟩
abbrev cL_adds : ByteArray := method_8_code
def yL_adds : MethodName := ⟨RL, "adds", "(LLandUses;I[J)I"⟩
abbrev cL_years : ByteArray := method_9_code
def yL_years : MethodName := ⟨RL, "years", "(LLandUses;I[J)I"⟩
abbrev cL_best : ByteArray := method_10_code
def yL_best : MethodName := ⟨RL, "best", "(LLandUses;[J)I"⟩
abbrev cL_given : ByteArray := method_11_code
def yL_given : MethodName := ⟨RL, "given", "(LLandUses;I[J)I"⟩
abbrev cL_cost : ByteArray := method_12_code
def yL_cost : MethodName := ⟨RL, "cost", "(LLandUses;I[J)I"⟩
abbrev cL_look : ByteArray := method_13_code
def yL_look : MethodName := ⟨RL, "look", "(LLandUses;II[J)I"⟩
abbrev cL_unlike : ByteArray := method_14_code
def yL_unlike : MethodName := ⟨RL, "unlike", "(LLandUses;II[J)I"⟩
abbrev cL_back : ByteArray := method_15_code
def yL_back : MethodName := ⟨RL, "back", "(LLandUses;I[J)I"⟩
abbrev cL_law : ByteArray := code
def yL_law : MethodName := ⟨RL, "law", "([I)Z"⟩
end
section
/-! THE SMALL MACHINE: methods as tables of instructions, a heap of cells by number, locals by place; a step is a function. Below: what a step of it says of the real machine. -/
/-- base address, addresses of things outside, the classes' numbers and slots, the array classes, the heap at the start -/
abbrev mE : Type := Nat × (Nat → Nat) × va_G × (Nat → ClassId) × Heap
abbrev mH : Type := List va_E
/-- name, bytes, places, answer, handlers, number of the own class, instructions -/
abbrev mM : Type := MethodName × ByteArray × Nat × Option FieldType × List (Nat × Nat × Nat × Nat) × Nat × List (Nat × Instr × Nat)
abbrev mS : Type := Nat × List (Option Value) × List Value × mH
def m_ad (E : mE) (k : Nat) : Nat := if k < 1000000 then E.1 + k else E.2.1 k
def m_v (E : mE) : Value → Value
  | .ref a => .ref (m_ad E a)
  | v => v
def m_c (E : mE) : va_E → va_E
  | .inr o => .inr (o.1, o.2.map (m_v E))
  | .inl (t, n, .inr (.inr (.inr (.inr g)))) => .inl (E.2.2.2.1 t, n, .inr (.inr (.inr (.inr (fun i => (g i).map (m_ad E))))))
  | .inl (t, n, x) => .inl (E.2.2.2.1 t, n, x)
def m_W (E : mE) (h : mH) : va_W := h.mapIdx (fun k c => (m_ad E k, m_c E c))
/-- the kinds of arrays -/
def m_ty : List FieldType := [.int, .long, .byte, .boolean, .object "LandUses$Line", .object "LandUses$Uses", .array .long]
def m_tys (E : mE) : List (ClassId × FieldType) := m_ty.mapIdx (fun k t => (E.2.2.2.1 k, t))
abbrev m_cl : List vw_C := [(RX0, TX0, 2), (RX1, TX1, 3), (RX2, TX2, 7), (RX3, TX3, 3), (RX4, TX4, 8), (RX6, TX6, 2), (RX7, TX7, 1), (RX8, TX8, 14), (RX9, TX9, 33)]
def m_R (E : mE) (tg : Bool) (h : mH) (H : Heap) : Prop :=
  va_P E.2.2.1 m_cl (m_W E h) H ∧ E.1 + h.length ≤ H.size ∧ (tg = true → H.size ≤ E.1 + h.length) ∧ (∀ q, q < E.1 → H[q]? = E.2.2.2.2[q]?) ∧ h.length ≤ 1000000 ∧ E.2.2.2.2.size = E.1
def m_L (E : mE) (ls : Array Slot) (nL : Nat) (L : List (Option Value)) : Prop :=
  ls.size = nL ∧ lv_wf ls ∧ L.length = nL ∧ ∀ (i : Nat) (v : Value), L[i]? = some (some v) → ls[i]? = some (Slot.val (m_v E v))
def m_rm (d mc ms : Nat) : Room := { frames := 8 + d, cells := mc, slots := ms, locals := 300 + 100 * d }
theorem m_cat (E : mE) (v : Value) : (m_v E v).category = v.category := by cases v <;> rfl
theorem m_W_get {E : mE} {h : mH} {k : Nat} {c : va_E} (hk : h[k]? = some c) : (m_W E h)[k]? = some (m_ad E k, m_c E c) := by
  simp [m_W, List.getElem?_mapIdx, hk]
theorem m_W_set (E : mE) (h : mH) (k : Nat) (c : va_E) : (m_W E h).set k (m_ad E k, m_c E c) = m_W E (h.set k c) := by
  apply List.ext_getElem?
  intro i
  simp only [m_W, List.getElem?_set, List.getElem?_mapIdx, List.length_mapIdx]
  by_cases hi : k = i
  · subst hi
    by_cases hl : k < h.length <;> simp [hl]
  · simp [hi]
theorem m_tys_get (E : mE) {t : Nat} {ty : FieldType} (h : m_ty[t]? = some ty) : (m_tys E)[t]? = some (E.2.2.2.1 t, ty) := by
  simp [m_tys, List.getElem?_mapIdx, h]
theorem m_D {E : mE} {h : mH} (hl : h.length ≤ 1000000) : va_D (fun q => E.1 ≤ q) (m_W E h) := by
  have key : ∀ (i : Nat) (p : Nat × va_E), (m_W E h)[i]? = some p → i < 1000000 ∧ p.1 = E.1 + i := by
    intro i p hp
    have hi : i < (m_W E h).length := (List.getElem?_eq_some_iff.mp hp).1
    have hi2 : i < 1000000 := by simp [m_W] at hi; omega
    simp only [m_W, List.getElem?_mapIdx] at hp
    cases hc : h[i]? with
    | none => rw [hc] at hp; simp at hp
    | some c =>
      rw [hc] at hp
      simp only [Option.map_some, Option.some.injEq] at hp
      subst hp
      exact ⟨hi2, by simp [m_ad, hi2]⟩
  refine ⟨fun i j p q hp hq e => ?_, fun k q hq => ?_⟩
  · have a := (key i p hp).2
    have b := (key j q hq).2
    omega
  · rw [(key k q hq).2]; exact Nat.le_add_right _ _
/-- the words that every method has -/
def m_good : Cond → Bool
  | .arrayClass _ => true
  | w => w.onTables && (w.keepsH || w.keepsFace)
theorem m_word_at {args a' : Array Value} {s U : State} (hW : s.WarmedH U.vm) {w : Cond} (hc : m_good w = true) (h : w.before args s = true) : w.before a' U = true := by
  have key : (w.onTables && (w.keepsH || w.keepsFace)) = true → w.before a' U = true := fun hk => by
    simp only [Bool.and_eq_true, Bool.or_eq_true] at hk
    rcases hk with ⟨h1, h2 | h2⟩
    · have h3 := Cond.onTables_warmH (T := U) (args' := a') hW h1 h2 h
      rwa [State.setVm_self] at h3
    · have h3 : w.before args (s.setVm U.vm) = true := Cond.before_shiftedFace (State.Shifted.of_warmed hW) _ h2 h
      exact va_tabs h1 (rfl : (s.setVm U.vm).vm = U.vm) h3
  cases w with
  | arrayClass ty => exact word_at hW (Or.inr ⟨ty, rfl⟩) h
  | _ => exact key hc
def m_tbl : List Cond := lw_tbl.filter m_good
def m_w1 (M : mM) : Cond := match M.2.2.2.2.1 with
  | [] => .code M.1 M.2.1 M.2.2.1 M.2.2.2.1
  | hh => .codeWith M.1 M.2.1 M.2.2.1 M.2.2.2.1 hh
def m_ws (M : mM) : List Cond := m_w1 M :: m_tbl
/-- the machine around a body -/
def m_X (EX : State → Prop) (E : mE) (M : mM) (p : Program) (s : State) (m : MethodId) (args : Array Value) (meth : Method) (c : Code) : Prop :=
  p.tables.exec = Jvm.exec ∧ c.code = M.2.1 ∧ meth.sig.returnType = M.2.2.2.1 ∧ c.maxLocals = M.2.2.1 ∧ s.vm.findClass M.1.cls = some m.cls ∧ (∀ w ∈ m_tbl, w.before args s = true) ∧ va_K E.2.2.1 m_cl (m_tys E) s ∧ meth.locks = false ∧ meth.name = M.1.name ∧ c.exceptionTable.toList = tableOf M.2.2.2.2.1 ∧ EX s ∧ E.1 ≤ s.heap.size ∧ (∀ q, q < E.1 → s.heap[q]? = E.2.2.2.2[q]?)
def m_Qc (E : mE) (PR : Option Value → mH → Bool → Prop) : Array Value → State → Outcome → State → Prop := fun _ st o t =>
  (∃ (v : Option Value) (h : mH) (tg : Bool), o = .returned (v.map (m_v E)) ∧ PR v h tg ∧ m_R E tg h t.heap) ∧ st.heap.size ≤ t.heap.size
def m_XC (E : mE) (PX : String → mH → Prop) : String → State → State → Prop := fun nm st t =>
  (∃ h : mH, PX nm h ∧ m_R E false h t.heap) ∧ st.heap.size ≤ t.heap.size
/-- THE JUDGEMENT: from this point of the body the method comes to an end that PR or PX allows -/
def m_J (l : Launch) (EX : State → Prop) (E : mE) (M : mM) (d mc ms : Nat) (PR : Option Value → mH → Bool → Prop) (PX : String → mH → Prop) (tg : Bool) (kc ks : Nat) (S : mS) : Prop :=
  ∀ (p : Program) (e : Env) (s : State) (m : MethodId) (args : Array Value) (below : List Frame) (meth : Method) (c : Code) (H : Heap) (locs : List Loc) (ls : Array Slot),
    m_X EX E M p s m args meth c → m_R E tg S.2.2.2 H → s.heap.size ≤ H.size → (tg = true → s.heap.size + kc ≤ E.1 + S.2.2.2.length) → (∀ q ∈ locs, E.1 ≤ q.base) → m_L E ls M.2.2.1 S.2.1 →
    W p l e (m_rm d mc ms) s m args below meth c H locs kc ks (vx_MQ below (m_Qc E PR) (m_XC E PX) args s mc ms (fun q => E.1 ≤ q)) (F0 m S.1 ls (S.2.2.1.map (m_v E)))
/-- the heap is never larger than what was counted -/
theorem m_size {p : Program} {l : Launch} {e : Env} {R : Room} {s : State} {m : MethodId} {args : Array Value} {below : List Frame} {meth : Method} {c : Code} {H : Heap} {locs : List Loc} {cells slots : Nat} {Q : State → Prop} {g : JFrame}
    (k : H.size ≤ s.heap.size + cells → s.heap.size ≤ H.size → W p l e R s m args below meth c H locs cells slots Q g) : W p l e R s m args below meth c H locs cells slots Q g := by
  intro T hT X
  have h := X.same
  have h2 : T.heap.size ≤ s.heap.size + cells := h.2.2.1
  have h3 : s.heap.size ≤ T.heap.size := h.2.1
  rw [hT] at h2 h3
  exact k h2 h3 T hT X
end
section
/-! tables of the small machine: written by wip/gen_tabs.py -/
def m_owns : List String := [RX0, RX1, RX2, RX3, RX4, RX5, RX6, RX7, RX8, RX9, RJ6, RJ13, RJ9, RL]
/-- (own class, index) to (class, field, 1 if a nest mate's) -/
def m_FT : List ((Nat × Nat) × (Nat × Nat × Nat)) := [((6, 11), (5, 0, 0)), ((6, 15), (5, 1, 0)), ((8, 91), (5, 1, 1)), ((3, 144), (5, 1, 1)), ((3, 9), (3, 0, 0)), ((3, 15), (3, 1, 0)), ((3, 19), (3, 2, 0)), ((7, 9), (6, 0, 0)), ((1, 36), (6, 0, 1)), ((2, 61), (6, 0, 1)), ((1, 12), (1, 0, 0)), ((4, 56), (1, 0, 1)), ((2, 42), (1, 0, 1)), ((8, 104), (1, 0, 1)), ((0, 48), (1, 0, 1)), ((1, 18), (1, 1, 0)), ((2, 50), (1, 1, 1)), ((8, 210), (1, 1, 1)), ((1, 24), (1, 2, 0)), ((2, 38), (1, 2, 1)), ((2, 7), (2, 0, 0)), ((3, 88), (2, 0, 1)), ((2, 16), (2, 1, 0)), ((3, 72), (2, 1, 1)), ((2, 19), (2, 2, 0)), ((3, 91), (2, 2, 1)), ((3, 116), (2, 3, 1)), ((0, 70), (2, 3, 1)), ((2, 22), (2, 4, 0)), ((3, 94), (2, 4, 1)), ((2, 31), (2, 5, 0)), ((3, 99), (2, 5, 1)), ((2, 13), (2, 6, 0)), ((3, 83), (2, 6, 1)), ((0, 11), (0, 0, 0)), ((3, 36), (0, 0, 1)), ((8, 153), (0, 0, 1)), ((0, 18), (0, 1, 0)), ((3, 22), (0, 1, 1)), ((8, 143), (0, 1, 1)), ((4, 14), (4, 0, 0)), ((4, 20), (4, 1, 0)), ((4, 27), (4, 2, 0)), ((8, 188), (4, 2, 1)), ((4, 31), (4, 3, 0)), ((8, 200), (4, 3, 1)), ((4, 34), (4, 4, 0)), ((4, 38), (4, 5, 0)), ((4, 42), (4, 6, 0)), ((8, 177), (4, 6, 1)), ((4, 46), (4, 7, 0)), ((8, 185), (4, 7, 1)), ((8, 12), (7, 0, 0)), ((8, 21), (7, 1, 0)), ((8, 28), (7, 2, 0)), ((8, 58), (7, 3, 0)), ((8, 35), (7, 4, 0)), ((8, 39), (7, 5, 0)), ((8, 46), (7, 6, 0)), ((8, 50), (7, 7, 0)), ((8, 62), (7, 8, 0)), ((8, 66), (7, 9, 0)), ((8, 70), (7, 10, 0)), ((8, 73), (7, 11, 0)), ((8, 76), (7, 12, 0)), ((8, 79), (7, 13, 0)), ((9, 79), (8, 0, 0)), ((9, 9), (8, 1, 0)), ((9, 13), (8, 2, 0)), ((9, 16), (8, 3, 0)), ((9, 106), (8, 4, 0)), ((9, 109), (8, 5, 0)), ((9, 244), (8, 6, 0)), ((9, 20), (8, 7, 0)), ((9, 23), (8, 8, 0)), ((9, 26), (8, 9, 0)), ((9, 29), (8, 10, 0)), ((9, 32), (8, 11, 0)), ((9, 35), (8, 12, 0)), ((9, 38), (8, 13, 0)), ((9, 210), (8, 14, 0)), ((9, 41), (8, 15, 0)), ((9, 272), (8, 16, 0)), ((9, 44), (8, 17, 0)), ((9, 116), (8, 18, 0)), ((9, 119), (8, 19, 0)), ((9, 122), (8, 20, 0)), ((9, 129), (8, 21, 0)), ((9, 48), (8, 22, 0)), ((9, 52), (8, 23, 0)), ((9, 55), (8, 24, 0)), ((9, 58), (8, 25, 0)), ((9, 61), (8, 26, 0)), ((9, 64), (8, 27, 0)), ((9, 67), (8, 28, 0)), ((9, 70), (8, 29, 0)), ((9, 73), (8, 30, 0)), ((9, 260), (8, 31, 0)), ((9, 76), (8, 32, 0))]
def m_CT : List ((Nat × Nat) × Value) := [((7, 17), .long (1152921504606846975)), ((5, 28), .long (-1)), ((11, 314), .long (6148914691236517205)), ((11, 316), .long (3689348814741910323)), ((11, 318), .long (1085102592571150095)), ((5, 30), .long (-577024252550054401)), ((5, 32), .long (-1127000493261826)), ((5, 34), .long (1152921504606846975)), ((4, 51), .int (-2147483648)), ((7, 23), .long (-1)), ((10, 265), .int (1431655765)), ((10, 266), .int (858993459)), ((10, 267), .int (252645135)), ((8, 232), .long (1152921504606846975)), ((8, 234), .long (-1))]
def m_tyf (c : Nat) : Nat → FieldType := match c with
  | 0 => tyX0
  | 1 => tyX1
  | 2 => tyX2
  | 3 => tyX3
  | 4 => tyX4
  | 5 => tyX6
  | 6 => tyX7
  | 7 => tyX8
  | _ => tyX9
theorem m_lw_mem {w : Cond} (i : Nat) (h : lw_tbl[i]? = some w) : w ∈ lw_tbl := List.mem_of_getElem? h
def m_in (w : Cond) : Bool := decide (w ∈ lw_tbl) && m_good w
theorem m_in_mem {w : Cond} (h : m_in w = true) : w ∈ m_tbl := by
  simp only [m_in, Bool.and_eq_true, decide_eq_true_eq] at h
  exact List.mem_filter.mpr h
/-- a field's row, against the words -/
def m_FTw (q : (Nat × Nat) × (Nat × Nat × Nat)) (r : vw_C) : Cond := if q.2.2.2 = 0 then Cond.fieldLink (m_owns.getD q.1.1 "") q.1.2 (r.2.1 q.2.2.1).1 (r.2.1 q.2.2.1).2.1 (r.2.1 q.2.2.1).2.2.1 else Cond.fieldLinkNest (m_owns.getD q.1.1 "") q.1.2 (r.2.1 q.2.2.1).1 (r.2.1 q.2.2.1).2.1 (r.2.1 q.2.2.1).2.2.1 "LandUses"
def m_FTok (q : (Nat × Nat) × (Nat × Nat × Nat)) : Bool := match m_cl[q.2.1]? with
  | none => false
  | some r => decide (q.2.2.1 < r.2.2) && m_in (m_FTw q r)
set_option maxRecDepth 100000 in
theorem m_FT_ok : m_FT.all m_FTok = true := by decide +kernel
def m_CTw (q : (Nat × Nat) × Value) : Cond := match q.2 with
  | .int v => Cond.constant (m_owns.getD q.1.1 "") q.1.2 v
  | .long v => Cond.constantLong (m_owns.getD q.1.1 "") q.1.2 v
  | _ => .tt
set_option maxRecDepth 100000 in
theorem m_CT_ok : m_CT.all (fun q => m_in (m_CTw q)) = true := by decide +kernel
set_option maxRecDepth 100000 in
theorem m_iX : m_cl.all (fun r => (u_ws r.1 r.2.1 r.2.2).all m_in) = true := by decide +kernel
theorem m_ft_spec {o i c k n : Nat} (h : m_FT.lookup (o, i) = some (c, k, n)) : ∃ r, m_cl[c]? = some r ∧ k < r.2.2 ∧ m_FTw ((o, i), (c, k, n)) r ∈ m_tbl := by
  have hm : ((o, i), (c, k, n)) ∈ m_FT := by
    obtain ⟨l1, l2, e, -⟩ := List.lookup_eq_some_iff.mp h
    rw [e]; simp
  have := List.all_eq_true.mp m_FT_ok _ hm
  unfold m_FTok at this
  dsimp only at this
  cases hc : m_cl[c]? with
  | none => rw [hc] at this; cases this
  | some r =>
    rw [hc] at this
    simp only [Bool.and_eq_true, decide_eq_true_eq] at this
    exact ⟨r, rfl, this.1, m_in_mem this.2⟩
theorem m_ct_spec {o i : Nat} {v : Value} (h : m_CT.lookup (o, i) = some v) : m_CTw ((o, i), v) ∈ m_tbl := by
  have hm : ((o, i), v) ∈ m_CT := by
    obtain ⟨l1, l2, e, -⟩ := List.lookup_eq_some_iff.mp h
    rw [e]; simp
  exact m_in_mem (List.all_eq_true.mp m_CT_ok _ hm)
theorem m_cl_spec {c : Nat} {r : vw_C} (h : m_cl[c]? = some r) : (∀ k, k < r.2.2 → parseFieldDescriptor (r.2.1 k).2.2.1 = some (m_tyf c k)) ∧ (∀ a, a < r.2.2 → ∀ b, b < r.2.2 → a ≠ b → (r.2.1 a).2.1 ≠ (r.2.1 b).2.1) ∧ ∀ w ∈ u_ws r.1 r.2.1 r.2.2, w ∈ m_tbl := by
  refine ⟨?_, ?_, fun w hw => m_in_mem (List.all_eq_true.mp (List.all_eq_true.mp m_iX r (List.mem_of_getElem? h)) w hw)⟩
  · match c, h with
    | 0, h => cases h; exact tyX0_ok
    | 1, h => cases h; exact tyX1_ok
    | 2, h => cases h; exact tyX2_ok
    | 3, h => cases h; exact tyX3_ok
    | 4, h => cases h; exact tyX4_ok
    | 5, h => cases h; exact tyX6_ok
    | 6, h => cases h; exact tyX7_ok
    | 7, h => cases h; exact tyX8_ok
    | 8, h => cases h; exact tyX9_ok
    | c + 9, h => simp [m_cl] at h
  · match c, h with
    | 0, h => cases h; exact nmX0
    | 1, h => cases h; exact nmX1
    | 2, h => cases h; exact nmX2
    | 3, h => cases h; exact nmX3
    | 4, h => cases h; exact nmX4
    | 5, h => cases h; exact nmX6
    | 6, h => cases h; exact nmX7
    | 7, h => cases h; exact nmX8
    | 8, h => cases h; exact nmX9
    | c + 9, h => simp [m_cl] at h
end
section
/-! ONE STEP of the small machine: written by wip/gen_step.py -/
def m_tb (M : mM) : List (Nat × Instr × Nat) := M.2.2.2.2.2.2
def m_len : Instr → Nat
  | .bipush _ | .iload _ | .istore _ | .lload _ | .lstore _ | .aload _ | .astore _ | .ldc _ | .newarray _ => 2
  | .sipush _ | .getfield _ | .putfield _ | .goto _ | .if_icmp _ _ | .ifCond _ _ | .iinc _ _ | .ldc_w _ | .ldc2_w _ | .invokevirtual _ | .invokestatic _ | .invokespecial _ | .new _ | .anewarray _ | .ifnull _ | .ifnonnull _ => 3
  | .multianewarray _ _ => 4
  | _ => 1
def m_tgt : Instr → Option Int
  | .goto o => some o
  | .if_icmp _ o => some o
  | .ifCond _ o => some o
  | _ => none
def m_sw : Instr → Bool
  | .tableswitch _ _ _ _ => true
  | .lookupswitch _ _ => true
  | _ => false
def m_okI (b : ByteArray) (q : Nat × Instr × Nat) : Bool := match decode b q.1 with
  | .ok (i, n) => decide (i = q.2.1) && (decide (n = m_len i) || m_sw i) && (match m_tgt i with
    | none => true
    | some o => decide ((q.1 : Int) + o = (q.2.2 : Int)))
  | _ => false
def m_okM (M : mM) : Bool := decide (m_owns.getD M.2.2.2.2.2.1 "" = M.1.cls) && (m_tb M).all (m_okI M.2.1)
theorem m_own {M : mM} (h : m_okM M = true) : m_owns.getD M.2.2.2.2.2.1 "" = M.1.cls := by
  simp only [m_okM, Bool.and_eq_true, decide_eq_true_eq] at h
  exact h.1
theorem m_dec {M : mM} (h : m_okM M = true) {pc t : Nat} {i : Instr} (hf : (m_tb M).lookup pc = some (i, t)) :
    ∃ n, decode M.2.1 pc = .ok (i, n) ∧ (m_sw i = false → n = m_len i) ∧ ∀ o, m_tgt i = some o → (pc : Int) + o = (t : Int) := by
  have hm : (pc, i, t) ∈ m_tb M := by
    obtain ⟨l1, l2, e, -⟩ := List.lookup_eq_some_iff.mp hf
    rw [e]; simp
  simp only [m_okM, Bool.and_eq_true] at h
  have := List.all_eq_true.mp h.2 _ hm
  unfold m_okI at this
  dsimp only at this
  cases hd : decode M.2.1 pc with
  | error e => rw [hd] at this; cases this
  | ok q =>
    obtain ⟨i', n⟩ := q
    rw [hd] at this
    simp only [Bool.and_eq_true, Bool.or_eq_true, decide_eq_true_eq] at this
    obtain ⟨⟨h1, h2⟩, h3⟩ := this
    subst h1
    refine ⟨n, rfl, fun hs => ?_, fun o ho => ?_⟩
    · rcases h2 with h2 | h2
      · exact h2
      · rw [hs] at h2; cases h2
    · rw [ho] at h3
      exact of_decide_eq_true h3
def m_ld (L : List (Option Value)) (i : Nat) : Option Value := match L[i]? with
  | some (some v) => some v
  | _ => none
def m_c2 (L : List (Option Value)) : Nat → Bool
  | 0 => false
  | j + 1 => match L[j]? with
    | some (some w) => w.category == 2
    | _ => false
def m_sto (L : List (Option Value)) (i : Nat) (v : Value) : Option (List (Option Value)) := bif Nat.blt i L.length && !(m_c2 L i) then some (L.set i (some v)) else none
def m_stoL (L : List (Option Value)) (i : Nat) (v : Value) : Option (List (Option Value)) := bif Nat.blt (i + 1) L.length && !(m_c2 L i) then some ((L.set i (some v)).set (i + 1) none) else none
theorem m_ld_at {E : mE} {ls : Array Slot} {nL : Nat} {L : List (Option Value)} (hL : m_L E ls nL L) {i : Nat} {v : Value} (h : m_ld L i = some v) : ls[i]? = some (Slot.val (m_v E v)) := by
  unfold m_ld at h
  split at h
  · cases h
    rename_i w hw
    exact hL.2.2.2 i _ hw
  · cases h
def m_al (E : mE) (L : List (Option Value)) : List (Nat × Value) := (List.range L.length).filterMap (fun i => (m_ld L i).map (fun v => (i, m_v E v)))
theorem m_al_mem {E : mE} {L : List (Option Value)} {q : Nat × Value} : q ∈ m_al E L ↔ ∃ v, m_ld L q.1 = some v ∧ q.2 = m_v E v := by
  unfold m_al
  rw [List.mem_filterMap]
  constructor
  · rintro ⟨i, hi, h⟩
    cases hl : m_ld L i with
    | none => rw [hl] at h; cases h
    | some v =>
      rw [hl] at h
      cases h
      exact ⟨v, hl, rfl⟩
  · rintro ⟨v, hv, e⟩
    refine ⟨q.1, ?_, by rw [hv, Option.map_some, ← e]⟩
    rw [List.mem_range]
    unfold m_ld at hv
    split at hv
    · rename_i w hw
      exact (List.getElem?_eq_some_iff.mp hw).1
    · cases hv
theorem m_al_has {E : mE} {ls : Array Slot} {nL : Nat} {L : List (Option Value)} (hL : m_L E ls nL L) : lv_has ls nL (m_al E L) :=
  ⟨hL.1, hL.2.1, fun q hq => by
    obtain ⟨v, hv, e⟩ := m_al_mem.mp hq
    rw [e]; exact m_ld_at hL hv⟩
theorem m_ld_get {L : List (Option Value)} {i : Nat} {v : Value} (h : L[i]? = some (some v)) : m_ld L i = some v := by unfold m_ld; rw [h]
theorem m_sto_L {E : mE} {ls' : Array Slot} {nL : Nat} {L L' : List (Option Value)} {i : Nat} {v : Value} (hl : L.length = nL) (hs : m_sto L i v = some L')
    (h : lv_has ls' nL ((i, m_v E v) :: (m_al E L).filter (fun q => !(q.1 == i) && !(q.1 + 1 == i && q.2.category == 2)))) : m_L E ls' nL L' := by
  unfold m_sto at hs
  cases hc : (Nat.blt i L.length && !(m_c2 L i)) with
  | false => rw [hc] at hs; cases hs
  | true =>
    rw [hc] at hs
    cases hs
    simp only [Bool.and_eq_true, Bool.not_eq_true'] at hc
    refine ⟨h.1, h.2.1, by simpa using hl, fun j w hw => ?_⟩
    by_cases hj : j = i
    · subst hj
      rw [List.getElem?_set_self (by simpa [Nat.blt_eq] using hc.1)] at hw
      cases hw
      exact h.2.2 (j, m_v E v) (by simp)
    · rw [List.getElem?_set_ne (by omega)] at hw
      refine h.2.2 (j, m_v E w) (List.mem_cons_of_mem _ (List.mem_filter.mpr ⟨m_al_mem.mpr ⟨w, m_ld_get hw, rfl⟩, ?_⟩))
      simp only [Bool.and_eq_true, Bool.not_eq_true']
      refine ⟨by simpa using hj, ?_⟩
      by_cases hi : j + 1 = i
      · subst hi
        have := hc.2
        simp only [m_c2, hw] at this
        simp [m_cat, this]
      · simp [hi]
theorem m_stoL_L {E : mE} {ls' : Array Slot} {nL : Nat} {L L' : List (Option Value)} {i : Nat} {v : Value} (hl : L.length = nL) (hs : m_stoL L i v = some L')
    (h : lv_has ls' nL ((i, m_v E v) :: (m_al E L).filter (fun q => !(q.1 == i) && (!(q.1 == i + 1) && !(q.1 + 1 == i && q.2.category == 2))))) : m_L E ls' nL L' := by
  unfold m_stoL at hs
  cases hc : (Nat.blt (i + 1) L.length && !(m_c2 L i)) with
  | false => rw [hc] at hs; cases hs
  | true =>
    rw [hc] at hs
    cases hs
    simp only [Bool.and_eq_true, Bool.not_eq_true'] at hc
    have hlt : i + 1 < L.length := by simpa [Nat.blt_eq] using hc.1
    refine ⟨h.1, h.2.1, by simpa using hl, fun j w hw => ?_⟩
    by_cases hj1 : j = i + 1
    · subst hj1
      rw [List.getElem?_set_self (by simpa using hlt)] at hw
      cases hw
    · rw [List.getElem?_set_ne (by omega)] at hw
      by_cases hj : j = i
      · subst hj
        rw [List.getElem?_set_self (by omega)] at hw
        cases hw
        exact h.2.2 (j, m_v E v) (by simp)
      · rw [List.getElem?_set_ne (by omega)] at hw
        refine h.2.2 (j, m_v E w) (List.mem_cons_of_mem _ (List.mem_filter.mpr ⟨m_al_mem.mpr ⟨w, m_ld_get hw, rfl⟩, ?_⟩))
        simp only [Bool.and_eq_true, Bool.not_eq_true']
        refine ⟨by simpa using hj, by simpa using hj1, ?_⟩
        by_cases hi : j + 1 = i
        · subst hi
          have := hc.2
          simp only [m_c2, hw] at this
          simp [m_cat, this]
        · simp [hi]
theorem m_sto_lt {L L' : List (Option Value)} {i : Nat} {v : Value} (hs : m_sto L i v = some L') : i < L.length := by
  unfold m_sto at hs
  cases hc : (Nat.blt i L.length && !(m_c2 L i)) with
  | false => rw [hc] at hs; cases hs
  | true =>
    simp only [Bool.and_eq_true] at hc
    simpa [Nat.blt_eq] using hc.1
theorem m_stoL_lt {L L' : List (Option Value)} {i : Nat} {v : Value} (hs : m_stoL L i v = some L') : i + 1 < L.length := by
  unfold m_stoL at hs
  cases hc : (Nat.blt (i + 1) L.length && !(m_c2 L i)) with
  | false => rw [hc] at hs; cases hs
  | true =>
    simp only [Bool.and_eq_true] at hc
    simpa [Nat.blt_eq] using hc.1
/-- what a field takes -/
def m_fit : FieldType → Value → Bool
  | .int, .int _ => true
  | .long, .long _ => true
  | .boolean, .int x => decide (x = 0) || decide (x = 1)
  | .object _, .ref _ => true
  | .object _, .null => true
  | .array _, .ref _ => true
  | .array _, .null => true
  | _, _ => false
theorem m_fit_ok {ty : FieldType} {v : Value} (E : mE) (h : m_fit ty v = true) : narrow ty (m_v E v) = m_v E v ∧ fits ty (m_v E v) = true := by
  unfold m_fit at h
  split at h
  · exact ⟨rfl, rfl⟩
  · exact ⟨rfl, rfl⟩
  · rename_i x
    simp only [Bool.or_eq_true, decide_eq_true_eq] at h
    rcases h with rfl | rfl
    · exact (show narrow .boolean (.int 0) = .int 0 ∧ fits .boolean (.int 0) = true from ⟨by decide, by decide⟩)
    · exact (show narrow .boolean (.int 1) = .int 1 ∧ fits .boolean (.int 1) = true from ⟨by decide, by decide⟩)
  all_goals first | exact ⟨rfl, rfl⟩ | cases h
theorem m_up {f : Nat → Option Nat} {g : Nat → Nat} {i b : Nat} : (fun j => (va_up f i (some b) j).map g) = va_up (fun j => (f j).map g) i (some (g b)) := by
  funext j
  unfold va_up
  by_cases hj : j = i <;> simp [hj]
def m_fin (c k : Nat) : Bool := ((m_cl.getD c (RX0, TX0, 2)).2.1 k).2.2.2
def m_rf : Option Nat → Value
  | some a => .ref a
  | none => .null

def m_off (df lo hi : Int) (offs : Array Int) (x : Int32) : Int := if x.toInt < lo ∨ hi < x.toInt then df else offs.getD (x.toInt - lo).toNat 0
/-- an instruction: the state behind it, and what must hold for it -/
def m_ins (o : Nat) (ini : Bool) (ins : Instr) (t pc : Nat) (L : List (Option Value)) (st : List Value) (h : mH) : Option (mS × Prop) := match ins with
  | .iconst n => some ((pc + 1, L, .int (Int32.ofInt n) :: st, h), True)
  | .bipush n => some ((pc + 2, L, .int (Int8.ofInt n).toInt32 :: st, h), True)
  | .sipush n => some ((pc + 3, L, .int (Int16.ofInt n).toInt32 :: st, h), True)
  | .lconst n => some ((pc + 1, L, .long (Int64.ofNat (n : Nat)) :: st, h), True)
  | .iload i => match m_ld L i with
    | some (.int x) => some ((pc + 2, L, .int x :: st, h), True)
    | _ => none
  | .iload_n k => match m_ld L (k : Nat) with
    | some (.int x) => some ((pc + 1, L, .int x :: st, h), True)
    | _ => none
  | .lload i => match m_ld L i with
    | some (.long x) => some ((pc + 2, L, .long x :: st, h), True)
    | _ => none
  | .lload_n k => match m_ld L (k : Nat) with
    | some (.long x) => some ((pc + 1, L, .long x :: st, h), True)
    | _ => none
  | .aload i => match m_ld L i with
    | some (.ref x) => some ((pc + 2, L, .ref x :: st, h), True)
    | _ => none
  | .aload_n k => match m_ld L (k : Nat) with
    | some (.ref x) => some ((pc + 1, L, .ref x :: st, h), True)
    | _ => none
  | .istore i => match st with
    | .int x :: r => match m_sto L i (.int x) with
      | some L2 => some ((pc + 2, L2, r, h), True)
      | none => none
    | _ => none
  | .istore_n k => match st with
    | .int x :: r => match m_sto L (k : Nat) (.int x) with
      | some L2 => some ((pc + 1, L2, r, h), True)
      | none => none
    | _ => none
  | .astore i => match st with
    | .ref x :: r => match m_sto L i (.ref x) with
      | some L2 => some ((pc + 2, L2, r, h), True)
      | none => none
    | _ => none
  | .astore_n k => match st with
    | .ref x :: r => match m_sto L (k : Nat) (.ref x) with
      | some L2 => some ((pc + 1, L2, r, h), True)
      | none => none
    | _ => none
  | .lstore i => match st with
    | .long x :: r => match m_stoL L i (.long x) with
      | some L2 => some ((pc + 2, L2, r, h), True)
      | none => none
    | _ => none
  | .lstore_n k => match st with
    | .long x :: r => match m_stoL L (k : Nat) (.long x) with
      | some L2 => some ((pc + 1, L2, r, h), True)
      | none => none
    | _ => none
  | .iadd => match st with
    | .int y :: .int x :: r => some ((pc + 1, L, .int (x + y) :: r, h), True)
    | _ => none
  | .isub => match st with
    | .int y :: .int x :: r => some ((pc + 1, L, .int (x - y) :: r, h), True)
    | _ => none
  | .imul => match st with
    | .int y :: .int x :: r => some ((pc + 1, L, .int (x * y) :: r, h), True)
    | _ => none
  | .iand => match st with
    | .int y :: .int x :: r => some ((pc + 1, L, .int (x &&& y) :: r, h), True)
    | _ => none
  | .ior => match st with
    | .int y :: .int x :: r => some ((pc + 1, L, .int (x ||| y) :: r, h), True)
    | _ => none
  | .ixor => match st with
    | .int y :: .int x :: r => some ((pc + 1, L, .int (x ^^^ y) :: r, h), True)
    | _ => none
  | .ishl => match st with
    | .int y :: .int x :: r => some ((pc + 1, L, .int (x <<< (y &&& 31)) :: r, h), True)
    | _ => none
  | .ishr => match st with
    | .int y :: .int x :: r => some ((pc + 1, L, .int (x >>> (y &&& 31)) :: r, h), True)
    | _ => none
  | .iushr => match st with
    | .int y :: .int x :: r => some ((pc + 1, L, .int (x.toUInt32 >>> (y.toUInt32 &&& Int32.toUInt32 31)).toInt32 :: r, h), True)
    | _ => none
  | .ineg => match st with
    | .int x :: r => some ((pc + 1, L, .int (-x) :: r, h), True)
    | _ => none
  | .ladd => match st with
    | .long y :: .long x :: r => some ((pc + 1, L, .long (x + y) :: r, h), True)
    | _ => none
  | .lsub => match st with
    | .long y :: .long x :: r => some ((pc + 1, L, .long (x - y) :: r, h), True)
    | _ => none
  | .land => match st with
    | .long y :: .long x :: r => some ((pc + 1, L, .long (x &&& y) :: r, h), True)
    | _ => none
  | .lor => match st with
    | .long y :: .long x :: r => some ((pc + 1, L, .long (x ||| y) :: r, h), True)
    | _ => none
  | .lxor => match st with
    | .long y :: .long x :: r => some ((pc + 1, L, .long (x ^^^ y) :: r, h), True)
    | _ => none
  | .lneg => match st with
    | .long x :: r => some ((pc + 1, L, .long (-x) :: r, h), True)
    | _ => none
  | .lshl => match st with
    | .int y :: .long x :: r => some ((pc + 1, L, .long (x <<< (y.toInt64 &&& 63)) :: r, h), True)
    | _ => none
  | .lushr => match st with
    | .int y :: .long x :: r => some ((pc + 1, L, .long (x.toUInt64 >>> (y.toInt64.toUInt64 &&& Int64.toUInt64 63)).toInt64 :: r, h), True)
    | _ => none
  | .i2l => match st with
    | .int x :: r => some ((pc + 1, L, .long x.toInt64 :: r, h), True)
    | _ => none
  | .l2i => match st with
    | .long x :: r => some ((pc + 1, L, .int x.toInt32 :: r, h), True)
    | _ => none
  | .i2b => match st with
    | .int x :: r => some ((pc + 1, L, .int x.toInt8.toInt32 :: r, h), True)
    | _ => none
  | .lcmp => match st with
    | .long y :: .long x :: r => some ((pc + 1, L, .int (lg_cmp x y) :: r, h), True)
    | _ => none
  | .idiv => match st with
    | .int y :: .int x :: r => some ((pc + 1, L, .int (x / y) :: r, h), ¬ y = 0)
    | _ => none
  | .irem => match st with
    | .int y :: .int x :: r => some ((pc + 1, L, .int (x - x / y * y) :: r, h), ¬ y = 0)
    | _ => none
  | .dup => match st with
    | v :: r => bif (v.category == 1) then some ((pc + 1, L, v :: v :: r, h), True) else none
    | _ => none
  | .pop => match st with
    | v :: r => bif (v.category == 1) then some ((pc + 1, L, r, h), True) else none
    | _ => none
  | .dup2 => match st with
    | .int x :: .ref y :: r => some ((pc + 1, L, .int x :: .ref y :: .int x :: .ref y :: r, h), True)
    | _ => none
  | .iinc i n => match m_ld L i with
    | some (.int x) => match m_sto L i (.int (x + Int32.ofInt n)) with
      | some L2 => some ((pc + 3, L2, st, h), True)
      | none => none
    | _ => none
  | .goto _ => some ((t, L, st, h), True)
  | .if_icmp q _ => match st with
    | .int y :: .int x :: r => match q with
      | .eq => some ((if x = y then (t, L, r, h) else (pc + 3, L, r, h)), True)
      | .ne => some ((if ¬ x = y then (t, L, r, h) else (pc + 3, L, r, h)), True)
      | .lt => some ((if x < y then (t, L, r, h) else (pc + 3, L, r, h)), True)
      | .ge => some ((if y ≤ x then (t, L, r, h) else (pc + 3, L, r, h)), True)
      | .gt => some ((if y < x then (t, L, r, h) else (pc + 3, L, r, h)), True)
      | .le => some ((if x ≤ y then (t, L, r, h) else (pc + 3, L, r, h)), True)
    | _ => none
  | .ifCond q _ => match st with
    | .int x :: r => match q with
      | .eq => some ((if x = 0 then (t, L, r, h) else (pc + 3, L, r, h)), True)
      | .ne => some ((if ¬ x = 0 then (t, L, r, h) else (pc + 3, L, r, h)), True)
      | .lt => some ((if x < 0 then (t, L, r, h) else (pc + 3, L, r, h)), True)
      | .ge => some ((if 0 ≤ x then (t, L, r, h) else (pc + 3, L, r, h)), True)
      | .gt => some ((if 0 < x then (t, L, r, h) else (pc + 3, L, r, h)), True)
      | .le => some ((if x ≤ 0 then (t, L, r, h) else (pc + 3, L, r, h)), True)
    | _ => none
  | .tableswitch df lo hi offs => match st with
    | .int x :: r => some ((((pc : Int) + m_off df lo hi offs x).toNat, L, r, h), 0 ≤ (pc : Int) + m_off df lo hi offs x ∧ (¬ (x.toInt < lo ∨ hi < x.toInt) → (x.toInt - lo).toNat < offs.size))
    | _ => none
  | .lookupswitch df ps => match st with
    | .int x :: r => some ((((pc : Int) + Op.lookupswitch.offset ps.toList df x.toInt).toNat, L, r, h), 0 ≤ (pc : Int) + Op.lookupswitch.offset ps.toList df x.toInt ∧ (ps.toList.zip (ps.toList.drop 1)).all (fun (a, next) => a.1 < next.1) = true)
    | _ => none
  | .ldc i => match m_CT.lookup (o, i) with
    | some (.int v) => some ((pc + 2, L, .int v :: st, h), True)
    | _ => none
  | .ldc_w i => match m_CT.lookup (o, i) with
    | some (.int v) => some ((pc + 3, L, .int v :: st, h), True)
    | _ => none
  | .ldc2_w i => match m_CT.lookup (o, i) with
    | some (.long v) => some ((pc + 3, L, .long v :: st, h), True)
    | _ => none
  | .getfield i => match st with
    | .ref a :: r => match m_FT.lookup (o, i) with
      | some (c, k, _) => match h[a]? with
        | some (.inr (c2, fs)) => bif c == c2 then (match fs[k]? with
          | some v => some ((pc + 3, L, v :: r, h), True)
          | none => none) else none
        | _ => none
      | none => none
    | _ => none
  | .putfield i => match st with
    | v :: .ref a :: r => match m_FT.lookup (o, i) with
      | some (c, k, n) => match h[a]? with
        | some (.inr (c2, fs)) => bif (c == c2) && Nat.blt k fs.length && m_fit (m_tyf c k) v && (!(m_fin c k) || (ini && (n == 0) && (m_owns.getD o "" == ((m_cl.getD c (RX0, TX0, 2)).2.1 k).1))) then some ((pc + 3, L, r, h.set a (.inr (c2, fs.set k v))), True) else none
        | _ => none
      | none => none
    | _ => none
  | .iaload => match st with
    | .int i :: .ref a :: r => match h[a]? with
      | some (.inl (0, n, .inl f)) => some ((pc + 1, L, .int (f i.toNatClampNeg) :: r, h), vp_in i n)
      | _ => none
    | _ => none
  | .laload => match st with
    | .int i :: .ref a :: r => match h[a]? with
      | some (.inl (1, n, .inr (.inl f))) => some ((pc + 1, L, .long (f i.toNatClampNeg) :: r, h), vp_in i n)
      | _ => none
    | _ => none
  | .baload => match st with
    | .int i :: .ref a :: r => match h[a]? with
      | some (.inl (2, n, .inl f)) => some ((pc + 1, L, .int (f i.toNatClampNeg) :: r, h), vp_in i n)
      | some (.inl (3, n, .inl f)) => some ((pc + 1, L, .int (f i.toNatClampNeg) :: r, h), vp_in i n)
      | _ => none
    | _ => none
  | .iastore => match st with
    | .int x :: .int i :: .ref a :: r => match h[a]? with
      | some (.inl (0, n, .inl f)) => some ((pc + 1, L, r, h.set a (.inl (0, n, .inl (upd f i.toNatClampNeg x)))), vp_in i n)
      | _ => none
    | _ => none
  | .lastore => match st with
    | .long x :: .int i :: .ref a :: r => match h[a]? with
      | some (.inl (1, n, .inr (.inl f))) => some ((pc + 1, L, r, h.set a (.inl (1, n, .inr (.inl (vp_updL f i.toNatClampNeg x))))), vp_in i n)
      | _ => none
    | _ => none
  | .bastore => match st with
    | .int x :: .int i :: .ref a :: r => match h[a]? with
      | some (.inl (2, n, .inl f)) => some ((pc + 1, L, r, h.set a (.inl (2, n, .inl (upd f i.toNatClampNeg (vp_nar .byte x))))), vp_in i n)
      | some (.inl (3, n, .inl f)) => some ((pc + 1, L, r, h.set a (.inl (3, n, .inl (upd f i.toNatClampNeg (vp_nar .boolean x))))), vp_in i n)
      | _ => none
    | _ => none
  | .aaload => match st with
    | .int i :: .ref a :: r => match h[a]? with
      | some (.inl (t, n, .inr (.inr (.inr (.inr f))))) => bif Nat.ble 4 t && Nat.ble t 6 then some ((pc + 1, L, m_rf (f i.toNatClampNeg) :: r, h), vp_in i n) else none
      | _ => none
    | _ => none
  | .aastore => match st with
    | .ref b :: .int i :: .ref a :: r => match h[a]?, h[b]? with
      | some (.inl (t, n, .inr (.inr (.inr (.inr f))))), some (.inr (c, vs)) => bif (t == 4 && c == 2) || (t == 5 && c == 6) then some ((pc + 1, L, r, h.set a (.inl (t, n, .inr (.inr (.inr (.inr (va_up f i.toNatClampNeg (some b)))))))), vp_in i n) else none
      | _, _ => none
    | _ => none
  | .arraylength => match st with
    | .ref a :: r => match h[a]? with
      | some (.inl (t, n, .inl _)) => bif (t == 0) || (t == 2) then some ((pc + 1, L, .int (Int32.ofNat n) :: r, h), True) else none
      | _ => none
    | _ => none
  | _ => none
def m_step (M : mM) (S : mS) : Option (mS × Prop) := match (m_tb M).lookup S.1 with
  | none => none
  | some (ins, t) => m_ins M.2.2.2.2.2.1 (decide (M.1.name = "<init>")) ins t S.1 S.2.1 S.2.2.1 S.2.2.2
theorem m_eqS {l : Launch} {EX : State → Prop} {E : mE} {M : mM} {d mc ms : Nat} {PR : Option Value → mH → Bool → Prop} {PX : String → mH → Prop} {tg : Bool} {kc ks : Nat} {S S' : mS} (h : m_J l EX E M d mc ms PR PX tg kc ks S) (e : S = S') : m_J l EX E M d mc ms PR PX tg kc ks S' := e ▸ h
/-- behind a write -/
theorem m_back {p : Program} {l : Launch} {e : Env} {s : State} {m : MethodId} {args : Array Value} {below : List Frame} {meth : Method} {c : Code} {R : Room} {E : mE} {tg : Bool} {kc ks : Nat} {h h1 : mH} {H H1 : Heap} {locs1 : List Loc} {Q : State → Prop} {g : JFrame}
    (hz1 : s.heap.size ≤ H.size) (hz2 : tg = true → s.heap.size + kc ≤ E.1 + h.length) (hR : m_R E tg h H) (hP1 : va_P E.2.2.1 m_cl (m_W E h1) H1) (hl : h1.length = h.length) (hS1 : va_S (fun q => E.1 ≤ q) E.2.2.2.2 H1 locs1)
    (k : ∀ H9, m_R E tg h1 H9 → s.heap.size ≤ H9.size → (tg = true → s.heap.size + kc ≤ E.1 + h1.length) → W p l e R s m args below meth c H9 locs1 kc ks Q g) : W p l e R s m args below meth c H1 locs1 kc ks Q g := by
  refine m_size (fun z1 z2 => ?_)
  refine k H1 ⟨hP1, ?_, fun ht => ?_, fun q hq => ?_, by rw [hl]; exact hR.2.2.2.2.1, hR.2.2.2.2.2⟩ z2 (fun ht => by rw [hl]; exact hz2 ht)
  · by_cases h0 : h1.length = 0
    · rw [h0]; have := hS1.1; rw [hR.2.2.2.2.2] at this; omega
    · have hlt : h1.length - 1 < h1.length := by omega
      have hg : (m_W E h1)[h1.length - 1]? = some (m_ad E (h1.length - 1), m_c E h1[h1.length - 1]) := m_W_get (List.getElem?_eq_getElem hlt)
      have := (hP1 _ _ hg).lt
      have hb : h1.length ≤ 1000000 := by rw [hl]; exact hR.2.2.2.2.1
      simp only [m_ad] at this
      rw [if_pos (by omega)] at this
      omega
  · have := hz2 ht; rw [hl]; omega
  · exact hS1.2.1 q (by rw [hR.2.2.2.2.2]; exact hq) (by omega)
set_option maxHeartbeats 4000000 in
theorem m_J_step {l : Launch} {EX : State → Prop} {E : mE} {M : mM} {d mc ms : Nat} {PR : Option Value → mH → Bool → Prop} {PX : String → mH → Prop} {tg : Bool} {kc ks : Nat} {S S' : mS} {CC : Prop} (hM : m_okM M = true) (hs : m_step M S = some (S', CC)) (hC : CC) (hJ : m_J l EX E M d mc ms PR PX tg kc ks S') : m_J l EX E M d mc ms PR PX tg kc ks S := by
  obtain ⟨pc, L, st, h⟩ := S
  unfold m_step at hs
  dsimp only at hs
  split at hs
  · cases hs
  rename_i ins t hf
  obtain ⟨n, hd1, hn, ht0⟩ := m_dec hM hf
  have hd0 : m_sw ins = false → decode M.2.1 pc = .ok (ins, m_len ins) := fun hs9 => by rw [← hn hs9]; exact hd1
  cases ins with
  | iconst n =>
    cases hs
    have hd := hd0 rfl
    intro p e s m args below meth c H locs ls hX hR hz1 hz2 hlo hL
    exact lv_iconst hX.1 hX.2.1 hd rfl (hJ p e s m args below meth c H locs ls hX hR hz1 hz2 hlo hL)
  | bipush n =>
    cases hs
    have hd := hd0 rfl
    intro p e s m args below meth c H locs ls hX hR hz1 hz2 hlo hL
    exact lv_bipush hX.1 hX.2.1 hd rfl (hJ p e s m args below meth c H locs ls hX hR hz1 hz2 hlo hL)
  | sipush n =>
    cases hs
    have hd := hd0 rfl
    intro p e s m args below meth c H locs ls hX hR hz1 hz2 hlo hL
    exact lv_sipush hX.1 hX.2.1 hd rfl (hJ p e s m args below meth c H locs ls hX hR hz1 hz2 hlo hL)
  | lconst n =>
    cases hs
    have hd := hd0 rfl
    intro p e s m args below meth c H locs ls hX hR hz1 hz2 hlo hL
    exact lv_lconst hX.1 hX.2.1 hd rfl (hJ p e s m args below meth c H locs ls hX hR hz1 hz2 hlo hL)
  | iload i =>
    dsimp only [m_ins] at hs
    split at hs
    · rename_i hq
      cases hs
      have hd := hd0 rfl
      intro p e s m args below meth c H locs ls hX hR hz1 hz2 hlo hL
      exact lv_iload hX.1 hX.2.1 hd (m_ld_at hL hq) (hJ p e s m args below meth c H locs ls hX hR hz1 hz2 hlo hL)
    · cases hs
  | iload_n k =>
    dsimp only [m_ins] at hs
    split at hs
    · rename_i hq
      cases hs
      have hd := hd0 rfl
      intro p e s m args below meth c H locs ls hX hR hz1 hz2 hlo hL
      exact lv_iload_n hX.1 hX.2.1 hd rfl (m_ld_at hL hq) (hJ p e s m args below meth c H locs ls hX hR hz1 hz2 hlo hL)
    · cases hs
  | lload i =>
    dsimp only [m_ins] at hs
    split at hs
    · rename_i hq
      cases hs
      have hd := hd0 rfl
      intro p e s m args below meth c H locs ls hX hR hz1 hz2 hlo hL
      exact lv_lload hX.1 hX.2.1 hd (m_ld_at hL hq) (hJ p e s m args below meth c H locs ls hX hR hz1 hz2 hlo hL)
    · cases hs
  | lload_n k =>
    dsimp only [m_ins] at hs
    split at hs
    · rename_i hq
      cases hs
      have hd := hd0 rfl
      intro p e s m args below meth c H locs ls hX hR hz1 hz2 hlo hL
      exact lv_lload_n hX.1 hX.2.1 hd rfl (m_ld_at hL hq) (hJ p e s m args below meth c H locs ls hX hR hz1 hz2 hlo hL)
    · cases hs
  | aload i =>
    dsimp only [m_ins] at hs
    split at hs
    · rename_i hq
      cases hs
      have hd := hd0 rfl
      intro p e s m args below meth c H locs ls hX hR hz1 hz2 hlo hL
      exact lv_aload hX.1 hX.2.1 hd (m_ld_at hL hq) (hJ p e s m args below meth c H locs ls hX hR hz1 hz2 hlo hL)
    · cases hs
  | aload_n k =>
    dsimp only [m_ins] at hs
    split at hs
    · rename_i hq
      cases hs
      have hd := hd0 rfl
      intro p e s m args below meth c H locs ls hX hR hz1 hz2 hlo hL
      exact lv_aload_n hX.1 hX.2.1 hd rfl (m_ld_at hL hq) (hJ p e s m args below meth c H locs ls hX hR hz1 hz2 hlo hL)
    · cases hs
  | istore i =>
    dsimp only [m_ins] at hs
    split at hs
    · split at hs
      · rename_i hq
        cases hs
        have hd := hd0 rfl
        intro p e s m args below meth c H locs ls hX hR hz1 hz2 hlo hL
        exact lv_istore hX.1 hX.2.1 hd (m_al_has hL) (by rw [← hL.2.2.1]; exact m_sto_lt hq) rfl (fun ls2 h2 => hJ p e s m args below meth c H locs ls2 hX hR hz1 hz2 hlo (m_sto_L hL.2.2.1 hq h2))
      · cases hs
    · cases hs
  | istore_n k =>
    dsimp only [m_ins] at hs
    split at hs
    · split at hs
      · rename_i hq
        cases hs
        have hd := hd0 rfl
        intro p e s m args below meth c H locs ls hX hR hz1 hz2 hlo hL
        exact lv_istore_n hX.1 hX.2.1 hd rfl (m_al_has hL) (by rw [← hL.2.2.1]; exact m_sto_lt hq) rfl (fun ls2 h2 => hJ p e s m args below meth c H locs ls2 hX hR hz1 hz2 hlo (m_sto_L hL.2.2.1 hq h2))
      · cases hs
    · cases hs
  | astore i =>
    dsimp only [m_ins] at hs
    split at hs
    · split at hs
      · rename_i hq
        cases hs
        have hd := hd0 rfl
        intro p e s m args below meth c H locs ls hX hR hz1 hz2 hlo hL
        exact lv_astore hX.1 hX.2.1 hd (m_al_has hL) (by rw [← hL.2.2.1]; exact m_sto_lt hq) rfl (fun ls2 h2 => hJ p e s m args below meth c H locs ls2 hX hR hz1 hz2 hlo (m_sto_L hL.2.2.1 hq h2))
      · cases hs
    · cases hs
  | astore_n k =>
    dsimp only [m_ins] at hs
    split at hs
    · split at hs
      · rename_i hq
        cases hs
        have hd := hd0 rfl
        intro p e s m args below meth c H locs ls hX hR hz1 hz2 hlo hL
        exact lv_astore_n hX.1 hX.2.1 hd rfl (m_al_has hL) (by rw [← hL.2.2.1]; exact m_sto_lt hq) rfl (fun ls2 h2 => hJ p e s m args below meth c H locs ls2 hX hR hz1 hz2 hlo (m_sto_L hL.2.2.1 hq h2))
      · cases hs
    · cases hs
  | lstore i =>
    dsimp only [m_ins] at hs
    split at hs
    · split at hs
      · rename_i hq
        cases hs
        have hd := hd0 rfl
        intro p e s m args below meth c H locs ls hX hR hz1 hz2 hlo hL
        exact lv_lstore hX.1 hX.2.1 hd (m_al_has hL) (by rw [← hL.2.2.1]; exact m_stoL_lt hq) rfl (fun ls2 h2 => hJ p e s m args below meth c H locs ls2 hX hR hz1 hz2 hlo (m_stoL_L hL.2.2.1 hq h2))
      · cases hs
    · cases hs
  | lstore_n k =>
    dsimp only [m_ins] at hs
    split at hs
    · split at hs
      · rename_i hq
        cases hs
        have hd := hd0 rfl
        intro p e s m args below meth c H locs ls hX hR hz1 hz2 hlo hL
        exact lv_lstore_n hX.1 hX.2.1 hd rfl (m_al_has hL) (by rw [← hL.2.2.1]; exact m_stoL_lt hq) rfl (fun ls2 h2 => hJ p e s m args below meth c H locs ls2 hX hR hz1 hz2 hlo (m_stoL_L hL.2.2.1 hq h2))
      · cases hs
    · cases hs
  | iadd  =>
    dsimp only [m_ins] at hs
    split at hs
    · cases hs
      have hd := hd0 rfl
      intro p e s m args below meth c H locs ls hX hR hz1 hz2 hlo hL
      exact lv_iadd hX.1 hX.2.1 hd (hJ p e s m args below meth c H locs ls hX hR hz1 hz2 hlo hL)
    · cases hs
  | isub  =>
    dsimp only [m_ins] at hs
    split at hs
    · cases hs
      have hd := hd0 rfl
      intro p e s m args below meth c H locs ls hX hR hz1 hz2 hlo hL
      exact lv_isub hX.1 hX.2.1 hd (hJ p e s m args below meth c H locs ls hX hR hz1 hz2 hlo hL)
    · cases hs
  | imul  =>
    dsimp only [m_ins] at hs
    split at hs
    · cases hs
      have hd := hd0 rfl
      intro p e s m args below meth c H locs ls hX hR hz1 hz2 hlo hL
      exact lv_imul hX.1 hX.2.1 hd (hJ p e s m args below meth c H locs ls hX hR hz1 hz2 hlo hL)
    · cases hs
  | iand  =>
    dsimp only [m_ins] at hs
    split at hs
    · cases hs
      have hd := hd0 rfl
      intro p e s m args below meth c H locs ls hX hR hz1 hz2 hlo hL
      exact lv_iand hX.1 hX.2.1 hd (hJ p e s m args below meth c H locs ls hX hR hz1 hz2 hlo hL)
    · cases hs
  | ior  =>
    dsimp only [m_ins] at hs
    split at hs
    · cases hs
      have hd := hd0 rfl
      intro p e s m args below meth c H locs ls hX hR hz1 hz2 hlo hL
      exact lv_ior hX.1 hX.2.1 hd (hJ p e s m args below meth c H locs ls hX hR hz1 hz2 hlo hL)
    · cases hs
  | ixor  =>
    dsimp only [m_ins] at hs
    split at hs
    · cases hs
      have hd := hd0 rfl
      intro p e s m args below meth c H locs ls hX hR hz1 hz2 hlo hL
      exact lv_ixor hX.1 hX.2.1 hd (hJ p e s m args below meth c H locs ls hX hR hz1 hz2 hlo hL)
    · cases hs
  | ishl  =>
    dsimp only [m_ins] at hs
    split at hs
    · cases hs
      have hd := hd0 rfl
      intro p e s m args below meth c H locs ls hX hR hz1 hz2 hlo hL
      exact lv_ishl hX.1 hX.2.1 hd (hJ p e s m args below meth c H locs ls hX hR hz1 hz2 hlo hL)
    · cases hs
  | ishr  =>
    dsimp only [m_ins] at hs
    split at hs
    · cases hs
      have hd := hd0 rfl
      intro p e s m args below meth c H locs ls hX hR hz1 hz2 hlo hL
      exact lv_ishr hX.1 hX.2.1 hd (hJ p e s m args below meth c H locs ls hX hR hz1 hz2 hlo hL)
    · cases hs
  | iushr  =>
    dsimp only [m_ins] at hs
    split at hs
    · cases hs
      have hd := hd0 rfl
      intro p e s m args below meth c H locs ls hX hR hz1 hz2 hlo hL
      exact lv_iushr hX.1 hX.2.1 hd rfl (hJ p e s m args below meth c H locs ls hX hR hz1 hz2 hlo hL)
    · cases hs
  | ineg  =>
    dsimp only [m_ins] at hs
    split at hs
    · cases hs
      have hd := hd0 rfl
      intro p e s m args below meth c H locs ls hX hR hz1 hz2 hlo hL
      exact lv_ineg hX.1 hX.2.1 hd (hJ p e s m args below meth c H locs ls hX hR hz1 hz2 hlo hL)
    · cases hs
  | ladd  =>
    dsimp only [m_ins] at hs
    split at hs
    · cases hs
      have hd := hd0 rfl
      intro p e s m args below meth c H locs ls hX hR hz1 hz2 hlo hL
      exact lv_ladd hX.1 hX.2.1 hd (hJ p e s m args below meth c H locs ls hX hR hz1 hz2 hlo hL)
    · cases hs
  | lsub  =>
    dsimp only [m_ins] at hs
    split at hs
    · cases hs
      have hd := hd0 rfl
      intro p e s m args below meth c H locs ls hX hR hz1 hz2 hlo hL
      exact lv_lsub hX.1 hX.2.1 hd (hJ p e s m args below meth c H locs ls hX hR hz1 hz2 hlo hL)
    · cases hs
  | land  =>
    dsimp only [m_ins] at hs
    split at hs
    · cases hs
      have hd := hd0 rfl
      intro p e s m args below meth c H locs ls hX hR hz1 hz2 hlo hL
      exact lv_land hX.1 hX.2.1 hd (hJ p e s m args below meth c H locs ls hX hR hz1 hz2 hlo hL)
    · cases hs
  | lor  =>
    dsimp only [m_ins] at hs
    split at hs
    · cases hs
      have hd := hd0 rfl
      intro p e s m args below meth c H locs ls hX hR hz1 hz2 hlo hL
      exact lv_lor hX.1 hX.2.1 hd (hJ p e s m args below meth c H locs ls hX hR hz1 hz2 hlo hL)
    · cases hs
  | lxor  =>
    dsimp only [m_ins] at hs
    split at hs
    · cases hs
      have hd := hd0 rfl
      intro p e s m args below meth c H locs ls hX hR hz1 hz2 hlo hL
      exact lv_lxor hX.1 hX.2.1 hd (hJ p e s m args below meth c H locs ls hX hR hz1 hz2 hlo hL)
    · cases hs
  | lneg  =>
    dsimp only [m_ins] at hs
    split at hs
    · cases hs
      have hd := hd0 rfl
      intro p e s m args below meth c H locs ls hX hR hz1 hz2 hlo hL
      exact lv_lneg hX.1 hX.2.1 hd (hJ p e s m args below meth c H locs ls hX hR hz1 hz2 hlo hL)
    · cases hs
  | lshl  =>
    dsimp only [m_ins] at hs
    split at hs
    · cases hs
      have hd := hd0 rfl
      intro p e s m args below meth c H locs ls hX hR hz1 hz2 hlo hL
      exact lv_lshl hX.1 hX.2.1 hd rfl (hJ p e s m args below meth c H locs ls hX hR hz1 hz2 hlo hL)
    · cases hs
  | lushr  =>
    dsimp only [m_ins] at hs
    split at hs
    · cases hs
      have hd := hd0 rfl
      intro p e s m args below meth c H locs ls hX hR hz1 hz2 hlo hL
      exact lv_lushr hX.1 hX.2.1 hd rfl (hJ p e s m args below meth c H locs ls hX hR hz1 hz2 hlo hL)
    · cases hs
  | i2l  =>
    dsimp only [m_ins] at hs
    split at hs
    · cases hs
      have hd := hd0 rfl
      intro p e s m args below meth c H locs ls hX hR hz1 hz2 hlo hL
      exact lv_i2l hX.1 hX.2.1 hd rfl (hJ p e s m args below meth c H locs ls hX hR hz1 hz2 hlo hL)
    · cases hs
  | l2i  =>
    dsimp only [m_ins] at hs
    split at hs
    · cases hs
      have hd := hd0 rfl
      intro p e s m args below meth c H locs ls hX hR hz1 hz2 hlo hL
      exact lv_l2i hX.1 hX.2.1 hd rfl (hJ p e s m args below meth c H locs ls hX hR hz1 hz2 hlo hL)
    · cases hs
  | i2b  =>
    dsimp only [m_ins] at hs
    split at hs
    · cases hs
      have hd := hd0 rfl
      intro p e s m args below meth c H locs ls hX hR hz1 hz2 hlo hL
      exact lv_i2b hX.1 hX.2.1 hd rfl (hJ p e s m args below meth c H locs ls hX hR hz1 hz2 hlo hL)
    · cases hs
  | lcmp  =>
    dsimp only [m_ins] at hs
    split at hs
    · cases hs
      have hd := hd0 rfl
      intro p e s m args below meth c H locs ls hX hR hz1 hz2 hlo hL
      exact W.lcmp hX.1 hX.2.1 hd (hJ p e s m args below meth c H locs ls hX hR hz1 hz2 hlo hL)
    · cases hs
  | idiv =>
    dsimp only [m_ins] at hs
    split at hs
    · cases hs
      have hd := hd0 rfl
      intro p e s m args below meth c H locs ls hX hR hz1 hz2 hlo hL
      exact lv_idiv hX.1 hX.2.1 hd hC (hJ p e s m args below meth c H locs ls hX hR hz1 hz2 hlo hL)
    · cases hs
  | irem =>
    dsimp only [m_ins] at hs
    split at hs
    · cases hs
      have hd := hd0 rfl
      intro p e s m args below meth c H locs ls hX hR hz1 hz2 hlo hL
      exact lv_irem hX.1 hX.2.1 hd hC (hJ p e s m args below meth c H locs ls hX hR hz1 hz2 hlo hL)
    · cases hs
  | dup =>
    dsimp only [m_ins] at hs
    split at hs
    · rename_i v r
      cases hv : (v.category == 1) with
      | false => rw [hv] at hs; cases hs
      | true =>
        rw [hv] at hs
        cases hs
        have hv1 : (m_v E v).category = 1 := by rw [m_cat]; simpa using hv
        have hd := hd0 rfl
        intro p e s m args below meth c H locs ls hX hR hz1 hz2 hlo hL
        exact lv_dup hX.1 hX.2.1 hd hv1 (hJ p e s m args below meth c H locs ls hX hR hz1 hz2 hlo hL)
    · cases hs
  | pop =>
    dsimp only [m_ins] at hs
    split at hs
    · rename_i v r
      cases hv : (v.category == 1) with
      | false => rw [hv] at hs; cases hs
      | true =>
        rw [hv] at hs
        cases hs
        have hv1 : (m_v E v).category = 1 := by rw [m_cat]; simpa using hv
        have hd := hd0 rfl
        intro p e s m args below meth c H locs ls hX hR hz1 hz2 hlo hL
        exact lv_pop hX.1 hX.2.1 hd hv1 (hJ p e s m args below meth c H locs ls hX hR hz1 hz2 hlo hL)
    · cases hs
  | dup2 =>
    dsimp only [m_ins] at hs
    split at hs
    · cases hs
      have hd := hd0 rfl
      intro p e s m args below meth c H locs ls hX hR hz1 hz2 hlo hL
      exact lv_dup2_11 hX.1 hX.2.1 hd rfl rfl (hJ p e s m args below meth c H locs ls hX hR hz1 hz2 hlo hL)
    · cases hs
  | iinc i n =>
    dsimp only [m_ins] at hs
    split at hs
    · rename_i x hx
      split at hs
      · rename_i hq
        cases hs
        have hd := hd0 rfl
        intro p e s m args below meth c H locs ls hX hR hz1 hz2 hlo hL
        obtain ⟨k, hk⟩ := List.getElem?_of_mem (m_al_mem (E := E) (q := (i, Value.int x)).mpr ⟨.int x, hx, rfl⟩)
        exact lv_iinc hX.1 hX.2.1 hd (m_al_has hL) hk rfl (by rw [← hL.2.2.1]; exact m_sto_lt hq) rfl (fun ls2 h2 => hJ p e s m args below meth c H locs ls2 hX hR hz1 hz2 hlo (m_sto_L hL.2.2.1 hq h2))
      · cases hs
    · cases hs
  | goto o =>
    cases hs
    have hd := hd0 rfl
    intro p e s m args below meth c H locs ls hX hR hz1 hz2 hlo hL
    exact lv_goto hX.1 hX.2.1 hd (ht0 _ rfl) (hJ p e s m args below meth c H locs ls hX hR hz1 hz2 hlo hL)
  | if_icmp q o =>
    dsimp only [m_ins] at hs
    split at hs
    · cases q with
      | eq =>
        cases hs
        have hd := hd0 rfl
        intro p e s m args below meth c H locs ls hX hR hz1 hz2 hlo hL
        exact lv_icmp_eq hX.1 hX.2.1 hd (ht0 _ rfl) (fun hc => m_eqS hJ (if_pos hc) p e s m args below meth c H locs ls hX hR hz1 hz2 hlo hL) (fun hc => m_eqS hJ (if_neg hc) p e s m args below meth c H locs ls hX hR hz1 hz2 hlo hL)
      | ne =>
        cases hs
        have hd := hd0 rfl
        intro p e s m args below meth c H locs ls hX hR hz1 hz2 hlo hL
        exact lv_icmp_ne hX.1 hX.2.1 hd (ht0 _ rfl) (fun hc => m_eqS hJ (if_pos hc) p e s m args below meth c H locs ls hX hR hz1 hz2 hlo hL) (fun hc => m_eqS hJ (if_neg (fun hn => hn hc)) p e s m args below meth c H locs ls hX hR hz1 hz2 hlo hL)
      | lt =>
        cases hs
        have hd := hd0 rfl
        intro p e s m args below meth c H locs ls hX hR hz1 hz2 hlo hL
        exact lv_icmp_lt hX.1 hX.2.1 hd (ht0 _ rfl) (fun hc => m_eqS hJ (if_pos hc) p e s m args below meth c H locs ls hX hR hz1 hz2 hlo hL) (fun hc => m_eqS hJ (if_neg hc) p e s m args below meth c H locs ls hX hR hz1 hz2 hlo hL)
      | ge =>
        cases hs
        have hd := hd0 rfl
        intro p e s m args below meth c H locs ls hX hR hz1 hz2 hlo hL
        exact lv_icmp_ge hX.1 hX.2.1 hd (ht0 _ rfl) (fun hc => m_eqS hJ (if_pos hc) p e s m args below meth c H locs ls hX hR hz1 hz2 hlo hL) (fun hc => m_eqS hJ (if_neg hc) p e s m args below meth c H locs ls hX hR hz1 hz2 hlo hL)
      | gt =>
        cases hs
        have hd := hd0 rfl
        intro p e s m args below meth c H locs ls hX hR hz1 hz2 hlo hL
        exact lv_icmp_gt hX.1 hX.2.1 hd (ht0 _ rfl) (fun hc => m_eqS hJ (if_pos hc) p e s m args below meth c H locs ls hX hR hz1 hz2 hlo hL) (fun hc => m_eqS hJ (if_neg hc) p e s m args below meth c H locs ls hX hR hz1 hz2 hlo hL)
      | le =>
        cases hs
        have hd := hd0 rfl
        intro p e s m args below meth c H locs ls hX hR hz1 hz2 hlo hL
        exact lv_icmp_le hX.1 hX.2.1 hd (ht0 _ rfl) (fun hc => m_eqS hJ (if_pos hc) p e s m args below meth c H locs ls hX hR hz1 hz2 hlo hL) (fun hc => m_eqS hJ (if_neg hc) p e s m args below meth c H locs ls hX hR hz1 hz2 hlo hL)
    · cases hs
  | ifCond q o =>
    dsimp only [m_ins] at hs
    split at hs
    · cases q with
      | eq =>
        cases hs
        have hd := hd0 rfl
        intro p e s m args below meth c H locs ls hX hR hz1 hz2 hlo hL
        exact lv_if_eq hX.1 hX.2.1 hd (ht0 _ rfl) (fun hc => m_eqS hJ (if_pos hc) p e s m args below meth c H locs ls hX hR hz1 hz2 hlo hL) (fun hc => m_eqS hJ (if_neg hc) p e s m args below meth c H locs ls hX hR hz1 hz2 hlo hL)
      | ne =>
        cases hs
        have hd := hd0 rfl
        intro p e s m args below meth c H locs ls hX hR hz1 hz2 hlo hL
        exact lv_if_ne hX.1 hX.2.1 hd (ht0 _ rfl) (fun hc => m_eqS hJ (if_pos hc) p e s m args below meth c H locs ls hX hR hz1 hz2 hlo hL) (fun hc => m_eqS hJ (if_neg (fun hn => hn hc)) p e s m args below meth c H locs ls hX hR hz1 hz2 hlo hL)
      | lt =>
        cases hs
        have hd := hd0 rfl
        intro p e s m args below meth c H locs ls hX hR hz1 hz2 hlo hL
        exact lv_if_lt hX.1 hX.2.1 hd (ht0 _ rfl) (fun hc => m_eqS hJ (if_pos hc) p e s m args below meth c H locs ls hX hR hz1 hz2 hlo hL) (fun hc => m_eqS hJ (if_neg hc) p e s m args below meth c H locs ls hX hR hz1 hz2 hlo hL)
      | ge =>
        cases hs
        have hd := hd0 rfl
        intro p e s m args below meth c H locs ls hX hR hz1 hz2 hlo hL
        exact lv_if_ge hX.1 hX.2.1 hd (ht0 _ rfl) (fun hc => m_eqS hJ (if_pos hc) p e s m args below meth c H locs ls hX hR hz1 hz2 hlo hL) (fun hc => m_eqS hJ (if_neg hc) p e s m args below meth c H locs ls hX hR hz1 hz2 hlo hL)
      | gt =>
        cases hs
        have hd := hd0 rfl
        intro p e s m args below meth c H locs ls hX hR hz1 hz2 hlo hL
        exact lv_if_gt hX.1 hX.2.1 hd (ht0 _ rfl) (fun hc => m_eqS hJ (if_pos hc) p e s m args below meth c H locs ls hX hR hz1 hz2 hlo hL) (fun hc => m_eqS hJ (if_neg hc) p e s m args below meth c H locs ls hX hR hz1 hz2 hlo hL)
      | le =>
        cases hs
        have hd := hd0 rfl
        intro p e s m args below meth c H locs ls hX hR hz1 hz2 hlo hL
        exact lv_if_le hX.1 hX.2.1 hd (ht0 _ rfl) (fun hc => m_eqS hJ (if_pos hc) p e s m args below meth c H locs ls hX hR hz1 hz2 hlo hL) (fun hc => m_eqS hJ (if_neg hc) p e s m args below meth c H locs ls hX hR hz1 hz2 hlo hL)
    · cases hs
  | tableswitch df lo hi offs =>
    dsimp only [m_ins] at hs
    split at hs
    · rename_i x r
      cases hs
      intro p e s m args below meth c H locs ls hX hR hz1 hz2 hlo hL
      have hw := hJ p e s m args below meth c H locs ls hX hR hz1 hz2 hlo hL
      have hp : (pc : Int) + m_off df lo hi offs x = ((((pc : Int) + m_off df lo hi offs x).toNat : Nat) : Int) := (Int.toNat_of_nonneg hC.1).symm
      by_cases hc : x.toInt < lo ∨ hi < x.toInt
      · refine lv_tableOut hX.1 hX.2.1 hd1 hc ?_ hw
        rw [← hp]; unfold m_off; rw [if_pos hc]
      · have hi2 := hC.2 hc
        refine lv_tableIn hX.1 hX.2.1 hd1 (fun q => hc (Or.inl q)) (fun q => hc (Or.inr q)) (off := offs.getD (x.toInt - lo).toNat 0) ?_ ?_ hw
        · simp [Array.getD, hi2]
        · rw [← hp]; unfold m_off; rw [if_neg hc]
    · cases hs
  | lookupswitch df ps =>
    dsimp only [m_ins] at hs
    split at hs
    · rename_i x r
      cases hs
      intro p e s m args below meth c H locs ls hX hR hz1 hz2 hlo hL
      exact lv_lookup hX.1 hX.2.1 hd1 hC.2 rfl (Int.toNat_of_nonneg hC.1).symm (hJ p e s m args below meth c H locs ls hX hR hz1 hz2 hlo hL)
    · cases hs
  | ldc i =>
    dsimp only [m_ins] at hs
    split at hs
    · rename_i v hv
      cases hs
      have hd := hd0 rfl
      have hw := m_ct_spec hv
      dsimp only [m_CTw] at hw
      rw [m_own hM] at hw
      intro p e s m args below meth c H locs ls hX hR hz1 hz2 hlo hL
      exact lv_ldc hX.1 hX.2.1 hX.2.2.2.2.1 (hX.2.2.2.2.2.1 _ hw) hd (hJ p e s m args below meth c H locs ls hX hR hz1 hz2 hlo hL)
    · cases hs
  | ldc_w i =>
    dsimp only [m_ins] at hs
    split at hs
    · rename_i v hv
      cases hs
      have hd := hd0 rfl
      have hw := m_ct_spec hv
      dsimp only [m_CTw] at hw
      rw [m_own hM] at hw
      intro p e s m args below meth c H locs ls hX hR hz1 hz2 hlo hL
      exact lv_ldcw hX.1 hX.2.1 hX.2.2.2.2.1 (hX.2.2.2.2.2.1 _ hw) hd (hJ p e s m args below meth c H locs ls hX hR hz1 hz2 hlo hL)
    · cases hs
  | ldc2_w i =>
    dsimp only [m_ins] at hs
    split at hs
    · rename_i v hv
      cases hs
      have hd := hd0 rfl
      have hw := m_ct_spec hv
      dsimp only [m_CTw] at hw
      rw [m_own hM] at hw
      intro p e s m args below meth c H locs ls hX hR hz1 hz2 hlo hL
      exact lv_ldc2 hX.1 hX.2.1 hX.2.2.2.2.1 (hX.2.2.2.2.2.1 _ hw) hd (hJ p e s m args below meth c H locs ls hX hR hz1 hz2 hlo hL)
    · cases hs
  | getfield i =>
    dsimp only [m_ins] at hs
    split at hs
    · rename_i a r
      split at hs
      · rename_i c0 k n hft
        split at hs
        · rename_i c2 fs hh
          cases hc : (c0 == c2) with
          | false => rw [hc] at hs; cases hs
          | true =>
            rw [hc] at hs
            have hc2 : c0 = c2 := by simpa using hc
            subst hc2
            dsimp only [cond] at hs
            split at hs
            · rename_i v hv
              cases hs
              have hd := hd0 rfl
              obtain ⟨q, hq, hkq, hw⟩ := m_ft_spec hft
              obtain ⟨C, TT, N⟩ := q
              intro p e s m args below meth c H locs ls hX hR hz1 hz2 hlo hL
              have hw2 := hX.2.2.2.2.2.1 _ hw
              have hg := m_W_get (E := E) hh
              unfold m_FTw at hw2
              dsimp only at hw2
              rw [m_own hM] at hw2
              have hv2 : (fs.map (m_v E))[k]? = some (m_v E v) := by rw [List.getElem?_map, hv]; rfl
              by_cases hn : n = 0
              · rw [if_pos hn] at hw2
                exact va_get hX.1 hX.2.1 hX.2.2.2.2.2.1 (m_cl_spec hq).2.2 hX.2.2.2.2.1 hX.2.2.2.2.2.2.1 hR.1 a hg hq k hkq hw2 (fun _ h9 => h9) hv2 hd (hJ p e s m args below meth c H locs ls hX hR hz1 hz2 hlo hL)
              · rw [if_neg hn] at hw2
                exact va_getN hX.1 hX.2.1 hX.2.2.2.2.2.1 (m_cl_spec hq).2.2 hX.2.2.2.2.1 hX.2.2.2.2.2.2.1 hR.1 a hg hq k hkq hw2 (fun _ h9 => h9) hv2 hd (hJ p e s m args below meth c H locs ls hX hR hz1 hz2 hlo hL)
            · cases hs
        · cases hs
      · cases hs
    · cases hs
  | putfield i =>
    dsimp only [m_ins] at hs
    split at hs
    · rename_i v a r
      split at hs
      · rename_i c0 k n hft
        split at hs
        · rename_i c2 fs hh
          cases hc : ((c0 == c2) && Nat.blt k fs.length && m_fit (m_tyf c0 k) v && (!(m_fin c0 k) || (decide (M.1.name = "<init>") && (n == 0) && (m_owns.getD M.2.2.2.2.2.1 "" == ((m_cl.getD c0 (RX0, TX0, 2)).2.1 k).1)))) with
          | false => rw [hc] at hs; cases hs
          | true =>
            rw [hc] at hs
            cases hs
            simp only [Bool.and_eq_true, Bool.or_eq_true, Bool.not_eq_true', beq_iff_eq, decide_eq_true_eq] at hc
            obtain ⟨⟨⟨hc2, hkl⟩, hfit⟩, hfin⟩ := hc
            subst hc2
            have hkl2 : k < fs.length := by simpa [Nat.blt_eq] using hkl
            have hd := hd0 rfl
            obtain ⟨q, hq, hkq, hw⟩ := m_ft_spec hft
            obtain ⟨C, TT, N⟩ := q
            have hgd : m_cl.getD c0 (RX0, TX0, 2) = (C, TT, N) := by rw [List.getD_eq_getElem?_getD, hq]; rfl
            intro p e s m args below meth c H locs ls hX hR hz1 hz2 hlo hL
            have hw2 := hX.2.2.2.2.2.1 _ hw
            have hg := m_W_get (E := E) hh
            unfold m_FTw at hw2
            dsimp only at hw2
            rw [m_own hM] at hw2
            obtain ⟨hty, hnm, hin⟩ := m_cl_spec hq
            have hS : va_S (fun q => E.1 ≤ q) E.2.2.2.2 H locs := ⟨by rw [hR.2.2.2.2.2]; exact Nat.le_trans (Nat.le_add_right _ _) hR.2.1, fun q h1 _ => hR.2.2.2.1 q (by rw [← hR.2.2.2.2.2]; exact h1), hlo⟩
            obtain ⟨hnar, hft2⟩ := m_fit_ok E hfit
            have hlen : k < (fs.map (m_v E)).length := by simpa using hkl2
            have kk : ∀ (H1 : Heap) (locs1 : List Loc), va_P E.2.2.1 m_cl ((m_W E h).set a (m_ad E a, .inr (c0, (fs.map (m_v E)).set k (m_v E v)))) H1 → va_D (fun q => E.1 ≤ q) ((m_W E h).set a (m_ad E a, .inr (c0, (fs.map (m_v E)).set k (m_v E v)))) → va_S (fun q => E.1 ≤ q) E.2.2.2.2 H1 locs1 →
                W p l e (m_rm d mc ms) s m args below meth c H1 locs1 kc ks (vx_MQ below (m_Qc E PR) (m_XC E PX) args s mc ms (fun q => E.1 ≤ q)) (F0 m (pc + 3) ls (r.map (m_v E))) := by
              intro H1 locs1 hP1 _ hS1
              have e9 : (Sum.inr (c0, (fs.map (m_v E)).set k (m_v E v)) : va_E) = m_c E (.inr (c0, fs.set k v)) := by simp [m_c, List.map_set]
              rw [e9, m_W_set] at hP1
              exact m_back hz1 hz2 hR hP1 (by simp) hS1 (fun H9 hR9 hs9 hz9 => hJ p e s m args below meth c H9 locs1 ls hX hR9 hs9 hz9 hS1.2.2 hL)
            by_cases hfb : (TT k).2.2.2 = true
            · have hfin2 : m_fin c0 k = true := by unfold m_fin; rw [hgd]; exact hfb
              rcases hfin with hf | ⟨⟨hini, hn0⟩, hown⟩
              · rw [hfin2] at hf; cases hf
              · rw [hgd] at hown
                rw [if_pos hn0] at hw2
                exact va_putF hX.1 hX.2.1 hX.2.2.2.2.2.1 hin (m_tyf c0) hty hnm hX.2.2.2.2.1 hX.2.2.2.2.2.2.1 hR.1 (m_D hR.2.2.2.2.1) hS a hg hq k hkq hw2 (fun _ h9 => h9) hfb (by rw [hX.2.2.2.2.2.2.2.2.1]; exact hini) (by rw [← m_own hM]; exact hown.symm) (hty k hkq) hnar hft2 hlen hd kk
            · have hfb2 : (TT k).2.2.2 = false := by simpa using hfb
              by_cases hn : n = 0
              · rw [if_pos hn] at hw2
                exact va_put hX.1 hX.2.1 hX.2.2.2.2.2.1 hin (m_tyf c0) hty hnm hX.2.2.2.2.1 hX.2.2.2.2.2.2.1 hR.1 (m_D hR.2.2.2.2.1) hS a hg hq k hkq hw2 (fun _ h9 => h9) hfb2 (hty k hkq) hnar hft2 hlen hd kk
              · rw [if_neg hn] at hw2
                exact va_putN hX.1 hX.2.1 hX.2.2.2.2.2.1 hin (m_tyf c0) hty hnm hX.2.2.2.2.1 hX.2.2.2.2.2.2.1 hR.1 (m_D hR.2.2.2.2.1) hS a hg hq k hkq hw2 (fun _ h9 => h9) hfb2 (hty k hkq) hnar hft2 hlen hd kk
        · cases hs
      · cases hs
    · cases hs
  | iaload =>
    dsimp only [m_ins] at hs
    split at hs
    · rename_i i a r
      split at hs
      · rename_i n f hh
        cases hs
        have hd := hd0 rfl
        intro p e s m args below meth c H locs ls hX hR hz1 hz2 hlo hL
        have hg := m_W_get (E := E) hh
        exact va_iald hX.1 hX.2.1 hX.2.2.2.2.2.2.1 hR.1 a 0 hg (m_tys_get E rfl) hC hd (hJ p e s m args below meth c H locs ls hX hR hz1 hz2 hlo hL)
      · cases hs
    · cases hs
  | laload =>
    dsimp only [m_ins] at hs
    split at hs
    · rename_i i a r
      split at hs
      · rename_i n f hh
        cases hs
        have hd := hd0 rfl
        intro p e s m args below meth c H locs ls hX hR hz1 hz2 hlo hL
        have hg := m_W_get (E := E) hh
        exact va_lald hX.1 hX.2.1 hX.2.2.2.2.2.2.1 hR.1 a 1 hg (m_tys_get E rfl) hC hd (hJ p e s m args below meth c H locs ls hX hR hz1 hz2 hlo hL)
      · cases hs
    · cases hs
  | baload =>
    dsimp only [m_ins] at hs
    split at hs
    · rename_i i a r
      split at hs
      · rename_i n f hh
        cases hs
        have hd := hd0 rfl
        intro p e s m args below meth c H locs ls hX hR hz1 hz2 hlo hL
        have hg := m_W_get (E := E) hh
        exact va_bald hX.1 hX.2.1 hX.2.2.2.2.2.2.1 hR.1 a 2 hg (m_tys_get E rfl) hC hd (hJ p e s m args below meth c H locs ls hX hR hz1 hz2 hlo hL)
      · rename_i n f hh
        cases hs
        have hd := hd0 rfl
        intro p e s m args below meth c H locs ls hX hR hz1 hz2 hlo hL
        have hg := m_W_get (E := E) hh
        exact va_zald hX.1 hX.2.1 hX.2.2.2.2.2.2.1 hR.1 a 3 hg (m_tys_get E rfl) hC hd (hJ p e s m args below meth c H locs ls hX hR hz1 hz2 hlo hL)
      · cases hs
    · cases hs
  | iastore =>
    dsimp only [m_ins] at hs
    split at hs
    · rename_i x i a r
      split at hs
      · rename_i n f hh
        cases hs
        have hd := hd0 rfl
        intro p e s m args below meth c H locs ls hX hR hz1 hz2 hlo hL
        have hg := m_W_get (E := E) hh
        have hS : va_S (fun q => E.1 ≤ q) E.2.2.2.2 H locs := ⟨by rw [hR.2.2.2.2.2]; exact Nat.le_trans (Nat.le_add_right _ _) hR.2.1, fun q h1 _ => hR.2.2.2.1 q (by rw [← hR.2.2.2.2.2]; exact h1), hlo⟩
        refine va_iast hX.1 hX.2.1 hX.2.2.2.2.2.2.1 hR.1 (m_D hR.2.2.2.2.1) hS a 0 hg (m_tys_get E rfl) hC hd (fun H1 locs1 hP1 _ hS1 => ?_)
        have hP1 : va_P E.2.2.1 m_cl ((m_W E h).set a (m_ad E a, m_c E (.inl (0, n, .inl (upd f i.toNatClampNeg x))))) H1 := hP1
        rw [m_W_set] at hP1
        exact m_back hz1 hz2 hR hP1 (by simp) hS1 (fun H9 hR9 hs9 hz9 => hJ p e s m args below meth c H9 locs1 ls hX hR9 hs9 hz9 hS1.2.2 hL)
      · cases hs
    · cases hs
  | lastore =>
    dsimp only [m_ins] at hs
    split at hs
    · rename_i x i a r
      split at hs
      · rename_i n f hh
        cases hs
        have hd := hd0 rfl
        intro p e s m args below meth c H locs ls hX hR hz1 hz2 hlo hL
        have hg := m_W_get (E := E) hh
        have hS : va_S (fun q => E.1 ≤ q) E.2.2.2.2 H locs := ⟨by rw [hR.2.2.2.2.2]; exact Nat.le_trans (Nat.le_add_right _ _) hR.2.1, fun q h1 _ => hR.2.2.2.1 q (by rw [← hR.2.2.2.2.2]; exact h1), hlo⟩
        refine va_last hX.1 hX.2.1 hX.2.2.2.2.2.2.1 hR.1 (m_D hR.2.2.2.2.1) hS a 1 hg (m_tys_get E rfl) hC hd (fun H1 locs1 hP1 _ hS1 => ?_)
        have hP1 : va_P E.2.2.1 m_cl ((m_W E h).set a (m_ad E a, m_c E (.inl (1, n, .inr (.inl (vp_updL f i.toNatClampNeg x)))))) H1 := hP1
        rw [m_W_set] at hP1
        exact m_back hz1 hz2 hR hP1 (by simp) hS1 (fun H9 hR9 hs9 hz9 => hJ p e s m args below meth c H9 locs1 ls hX hR9 hs9 hz9 hS1.2.2 hL)
      · cases hs
    · cases hs
  | bastore =>
    dsimp only [m_ins] at hs
    split at hs
    · rename_i x i a r
      split at hs
      · rename_i n f hh
        cases hs
        have hd := hd0 rfl
        intro p e s m args below meth c H locs ls hX hR hz1 hz2 hlo hL
        have hg := m_W_get (E := E) hh
        have hS : va_S (fun q => E.1 ≤ q) E.2.2.2.2 H locs := ⟨by rw [hR.2.2.2.2.2]; exact Nat.le_trans (Nat.le_add_right _ _) hR.2.1, fun q h1 _ => hR.2.2.2.1 q (by rw [← hR.2.2.2.2.2]; exact h1), hlo⟩
        refine va_bast hX.1 hX.2.1 hX.2.2.2.2.2.2.1 hR.1 (m_D hR.2.2.2.2.1) hS a 2 hg (m_tys_get E rfl) hC hd (fun H1 locs1 hP1 _ hS1 => ?_)
        have hP1 : va_P E.2.2.1 m_cl ((m_W E h).set a (m_ad E a, m_c E (.inl (2, n, .inl (upd f i.toNatClampNeg (vp_nar .byte x)))))) H1 := hP1
        rw [m_W_set] at hP1
        exact m_back hz1 hz2 hR hP1 (by simp) hS1 (fun H9 hR9 hs9 hz9 => hJ p e s m args below meth c H9 locs1 ls hX hR9 hs9 hz9 hS1.2.2 hL)
      · rename_i n f hh
        cases hs
        have hd := hd0 rfl
        intro p e s m args below meth c H locs ls hX hR hz1 hz2 hlo hL
        have hg := m_W_get (E := E) hh
        have hS : va_S (fun q => E.1 ≤ q) E.2.2.2.2 H locs := ⟨by rw [hR.2.2.2.2.2]; exact Nat.le_trans (Nat.le_add_right _ _) hR.2.1, fun q h1 _ => hR.2.2.2.1 q (by rw [← hR.2.2.2.2.2]; exact h1), hlo⟩
        refine va_zast hX.1 hX.2.1 hX.2.2.2.2.2.2.1 hR.1 (m_D hR.2.2.2.2.1) hS a 3 hg (m_tys_get E rfl) hC hd (fun H1 locs1 hP1 _ hS1 => ?_)
        have hP1 : va_P E.2.2.1 m_cl ((m_W E h).set a (m_ad E a, m_c E (.inl (3, n, .inl (upd f i.toNatClampNeg (vp_nar .boolean x)))))) H1 := hP1
        rw [m_W_set] at hP1
        exact m_back hz1 hz2 hR hP1 (by simp) hS1 (fun H9 hR9 hs9 hz9 => hJ p e s m args below meth c H9 locs1 ls hX hR9 hs9 hz9 hS1.2.2 hL)
      · cases hs
    · cases hs
  | aaload =>
    dsimp only [m_ins] at hs
    split at hs
    · rename_i i a r
      split at hs
      · rename_i t n f hh
        cases hc : (Nat.ble 4 t && Nat.ble t 6) with
        | false => rw [hc] at hs; cases hs
        | true =>
          rw [hc] at hs
          cases hs
          simp only [Bool.and_eq_true, Nat.ble_eq] at hc
          have hd := hd0 rfl
          intro p e s m args below meth c H locs ls hX hR hz1 hz2 hlo hL
          have hg := m_W_get (E := E) hh
          have hw := hJ p e s m args below meth c H locs ls hX hR hz1 hz2 hlo hL
          have ev : m_v E (m_rf (f i.toNatClampNeg)) = va_rf ((f i.toNatClampNeg).map (m_ad E)) := by cases f i.toNatClampNeg <;> rfl
          have hw : W p l e (m_rm d mc ms) s m args below meth c H locs kc ks (vx_MQ below (m_Qc E PR) (m_XC E PX) args s mc ms (fun q => E.1 ≤ q)) (F0 m (pc + 1) ls (va_rf ((f i.toNatClampNeg).map (m_ad E)) :: r.map (m_v E))) := by rw [← ev]; exact hw
          have hK := hX.2.2.2.2.2.2.1
          rcases (show ∀ z : Nat, 4 ≤ z ∧ z ≤ 6 → z = 4 ∨ z = 5 ∨ z = 6 by omega) _ hc with rfl | rfl | rfl
          · exact va_aldq hX.1 hX.2.1 hK hR.1 a 4 hg (m_tys_get E rfl) hC hd hw
          · exact va_aldq hX.1 hX.2.1 hK hR.1 a 5 hg (m_tys_get E rfl) hC hd hw
          · have hlt : i.toNatClampNeg < n := Nat.not_le.mp fun q => hC (Or.inr q)
            exact W.aald (v := va_rf ((f i.toNatClampNeg).map (m_ad E))) (ty := .array .long) hX.1 hX.2.1 (hR.1 a _ hg) ((hK.2 6 _ (m_tys_get E rfl)).1 n (fun j => va_rf ((f j).map (m_ad E)))) rfl (fun q => by cases q) (by show ¬ (i < 0 ∨ (arrV _ _ _).slots.size ≤ _); rw [arrV_size]; exact hC) (by show (arrV _ _ _).slots[_]? = _; rw [arrV_read _ _ hlt]) rfl rfl hd hw
      · cases hs
    · cases hs
  | aastore =>
    dsimp only [m_ins] at hs
    split at hs
    · rename_i b i a r
      split at hs
      · rename_i t n f c0 vs hh hb9
        cases hc : ((t == 4 && c0 == 2) || (t == 5 && c0 == 6)) with
        | false => rw [hc] at hs; cases hs
        | true =>
          rw [hc] at hs
          cases hs
          simp only [Bool.and_eq_true, Bool.or_eq_true, beq_iff_eq] at hc
          have hd := hd0 rfl
          intro p e s m args below meth c H locs ls hX hR hz1 hz2 hlo hL
          have hg := m_W_get (E := E) hh
          have hgb := m_W_get (E := E) hb9
          have hK := hX.2.2.2.2.2.2.1
          have hS : va_S (fun q => E.1 ≤ q) E.2.2.2.2 H locs := ⟨by rw [hR.2.2.2.2.2]; exact Nat.le_trans (Nat.le_add_right _ _) hR.2.1, fun q h1 _ => hR.2.2.2.1 q (by rw [← hR.2.2.2.2.2]; exact h1), hlo⟩
          have kk : ∀ (H1 : Heap) (locs1 : List Loc), va_P E.2.2.1 m_cl ((m_W E h).set a (m_ad E a, .inl (E.2.2.2.1 t, n, .inr (.inr (.inr (.inr (va_up (fun i => (f i).map (m_ad E)) i.toNatClampNeg (some (m_ad E b))))))))) H1 → va_D (fun q => E.1 ≤ q) ((m_W E h).set a (m_ad E a, .inl (E.2.2.2.1 t, n, .inr (.inr (.inr (.inr (va_up (fun i => (f i).map (m_ad E)) i.toNatClampNeg (some (m_ad E b))))))))) → va_S (fun q => E.1 ≤ q) E.2.2.2.2 H1 locs1 →
              W p l e (m_rm d mc ms) s m args below meth c H1 locs1 kc ks (vx_MQ below (m_Qc E PR) (m_XC E PX) args s mc ms (fun q => E.1 ≤ q)) (F0 m (pc + 1) ls (r.map (m_v E))) := by
            intro H1 locs1 hP1 _ hS1
            have e9 : (Sum.inl (E.2.2.2.1 t, n, .inr (.inr (.inr (.inr (va_up (fun i => (f i).map (m_ad E)) i.toNatClampNeg (some (m_ad E b))))))) : va_E) = m_c E (.inl (t, n, .inr (.inr (.inr (.inr (va_up f i.toNatClampNeg (some b))))))) := by
              simp only [m_c]
              rw [m_up]
            rw [e9, m_W_set] at hP1
            exact m_back hz1 hz2 hR hP1 (by simp) hS1 (fun H9 hR9 hs9 hz9 => hJ p e s m args below meth c H9 locs1 ls hX hR9 hs9 hz9 hS1.2.2 hL)
          rcases hc with ⟨rfl, rfl⟩ | ⟨rfl, rfl⟩
          · exact va_astq hX.1 hX.2.1 hK hR.1 (m_D hR.2.2.2.2.1) hS a 4 b 2 hg (m_tys_get E rfl) hgb rfl hC hd kk
          · exact va_astq hX.1 hX.2.1 hK hR.1 (m_D hR.2.2.2.2.1) hS a 5 b 6 hg (m_tys_get E rfl) hgb rfl hC hd kk
      · cases hs
    · cases hs
  | arraylength =>
    dsimp only [m_ins] at hs
    split at hs
    · rename_i a r
      split at hs
      · rename_i t n f hh
        cases hc : ((t == 0) || (t == 2)) with
        | false => rw [hc] at hs; cases hs
        | true =>
          rw [hc] at hs
          cases hs
          simp only [Bool.or_eq_true, beq_iff_eq] at hc
          have hd := hd0 rfl
          intro p e s m args below meth c H locs ls hX hR hz1 hz2 hlo hL
          have hg := m_W_get (E := E) hh
          have hw := hJ p e s m args below meth c H locs ls hX hR hz1 hz2 hlo hL
          rcases hc with rfl | rfl
          · exact va_alen hX.1 hX.2.1 hX.2.2.2.2.2.2.1 hR.1 a 0 hg (m_tys_get E rfl) rfl hd hw
          · exact va_alen hX.1 hX.2.1 hX.2.2.2.2.2.2.1 hR.1 a 2 hg (m_tys_get E rfl) rfl hd hw
      · cases hs
    · cases hs
  | _ => cases hs
end
section
/-! ENDS, CONTRACTS AND CALLS of the small machine -/
/-- a method's contract: with these arguments, over this heap -/
def m_Sp (l : Launch) (EX : State → Prop) (E : mE) (M : mM) (d mc ms : Nat) (as : List Value) (h : mH) (tg : Bool) (PR : Option Value → mH → Bool → Prop) (PX : String → mH → Prop) : Prop :=
  vx_Met l M.1 (m_ws M) (m_rm d mc ms) (va_Pc (as.map (m_v E)) (fun U => m_R E tg h U.heap ∧ va_K E.2.2.1 m_cl (m_tys E) U ∧ EX U)) (m_Qc E PR) (m_XC E PX) mc ms (fun q => E.1 ≤ q)
section
variable {l : Launch} {EX : State → Prop} {E : mE} {M : mM} {d mc ms : Nat} {PR : Option Value → mH → Bool → Prop} {PX : String → mH → Prop} {tg : Bool} {kc ks : Nat} {pc t : Nat} {L : List (Option Value)} {h : mH}
theorem m_J_iret (hM : m_okM M = true) (hf : (m_tb M).lookup pc = some (.ireturn, t)) {v : Int32} {ty : FieldType} (hr : M.2.2.2.1 = some ty) (hn : narrow ty (.int v) = .int v) (hc : kc ≤ mc) (hs : ks ≤ ms) (hp : PR (some (.int v)) h tg) : m_J l EX E M d mc ms PR PX tg kc ks (pc, L, [.int v], h) := by
  obtain ⟨n, hd1, hn1, -⟩ := m_dec hM hf
  have hd : decode M.2.1 pc = .ok (.ireturn, 1) := by rw [hd1, hn1 rfl]; rfl
  intro p e s m args below meth c H locs ls hX hR hz1 hz2 hlo hL
  refine W.widen (k := mc) (n := ms) hc hs (vx_ret ?_)
  exact W.zret hX.1 hX.2.1 (hX.2.2.1.trans hr) hn (fun t ht _ => ⟨⟨some (.int v), h, tg, rfl, hp, by rw [ht]; exact hR⟩, by rw [ht]; exact hz1⟩) hlo hd hX.2.2.2.2.2.2.2.1
theorem m_J_lret (hM : m_okM M = true) (hf : (m_tb M).lookup pc = some (.lreturn, t)) {v : Int64} (hr : M.2.2.2.1 = some .long) (hc : kc ≤ mc) (hs : ks ≤ ms) (hp : PR (some (.long v)) h tg) : m_J l EX E M d mc ms PR PX tg kc ks (pc, L, [.long v], h) := by
  obtain ⟨n, hd1, hn1, -⟩ := m_dec hM hf
  have hd : decode M.2.1 pc = .ok (.lreturn, 1) := by rw [hd1, hn1 rfl]; rfl
  intro p e s m args below meth c H locs ls hX hR hz1 hz2 hlo hL
  refine W.widen (k := mc) (n := ms) hc hs (vx_ret ?_)
  exact W.lret hX.1 hX.2.1 (hX.2.2.1.trans hr) (fun t ht _ => ⟨⟨some (.long v), h, tg, rfl, hp, by rw [ht]; exact hR⟩, by rw [ht]; exact hz1⟩) hlo hd hX.2.2.2.2.2.2.2.1
theorem m_J_aret (hM : m_okM M = true) (hf : (m_tb M).lookup pc = some (.areturn, t)) {a : Nat} {rt : FieldType} (hr : M.2.2.2.1 = some rt) (hrt : (∃ n, rt = .object n) ∨ ∃ t, rt = .array t) (hc : kc ≤ mc) (hs : ks ≤ ms) (hp : PR (some (.ref a)) h tg) : m_J l EX E M d mc ms PR PX tg kc ks (pc, L, [.ref a], h) := by
  obtain ⟨n, hd1, hn1, -⟩ := m_dec hM hf
  have hd : decode M.2.1 pc = .ok (.areturn, 1) := by rw [hd1, hn1 rfl]; rfl
  intro p e s m args below meth c H locs ls hX hR hz1 hz2 hlo hL
  refine W.widen (k := mc) (n := ms) hc hs (vx_ret ?_)
  exact W.aret hX.1 hX.2.1 (hX.2.2.1.trans hr) hrt (Or.inr ⟨_, rfl⟩) (fun t ht _ => ⟨⟨some (.ref a), h, tg, rfl, hp, by rw [ht]; exact hR⟩, by rw [ht]; exact hz1⟩) hlo hd hX.2.2.2.2.2.2.2.1
theorem m_J_vret (hM : m_okM M = true) (hf : (m_tb M).lookup pc = some (.return_, t)) (hr : M.2.2.2.1 = none) (hc : kc ≤ mc) (hs : ks ≤ ms) (hp : PR none h tg) : m_J l EX E M d mc ms PR PX tg kc ks (pc, L, [], h) := by
  obtain ⟨n, hd1, hn1, -⟩ := m_dec hM hf
  have hd : decode M.2.1 pc = .ok (.return_, 1) := by rw [hd1, hn1 rfl]; rfl
  intro p e s m args below meth c H locs ls hX hR hz1 hz2 hlo hL
  refine W.widen (k := mc) (n := ms) hc hs (vx_ret ?_)
  exact W.vret hX.1 hX.2.1 (hX.2.2.1.trans hr) (fun t ht _ => ⟨⟨none, h, tg, rfl, hp, by rw [ht]; exact hR⟩, by rw [ht]; exact hz1⟩) hlo hd hX.2.2.2.2.2.2.2.1
end
/-- the places at a method's entry -/
def m_ar : List Value → List (Option Value)
  | [] => []
  | v :: vs => bif v.category == 2 then some v :: none :: m_ar vs else some v :: m_ar vs
def m_ent (as : List Value) (n : Nat) : List (Option Value) := m_ar as ++ List.replicate (n - (m_ar as).length) none
theorem m_ar_args (E : mE) : ∀ (as : List Value) (k i : Nat) (v : Value), (m_ar as)[i]? = some (some v) → (k + i, m_v E v) ∈ lv_args k (as.map (m_v E)) := by
  intro as
  induction as with
  | nil => intro k i v h; simp [m_ar] at h
  | cons a as ih =>
    intro k i v h
    simp only [List.map_cons, lv_args, m_cat]
    by_cases hc : a.category = 2
    · simp only [m_ar, hc, beq_self_eq_true, cond_true] at h
      rw [if_pos hc]
      match i, h with
      | 0, h => simp at h; subst h; simp
      | 1, h => simp at h
      | i + 2, h =>
        have := ih (k + 2) i v (by simpa using h)
        rw [show k + 2 + i = k + (i + 2) by omega] at this
        exact List.mem_cons_of_mem _ this
    · have hb : (a.category == 2) = false := by simpa using hc
      simp only [m_ar, hb, cond_false] at h
      rw [if_neg hc]
      match i, h with
      | 0, h => simp at h; subst h; simp
      | i + 1, h =>
        have := ih (k + 1) i v (by simpa using h)
        rw [show k + 1 + i = k + (i + 1) by omega] at this
        exact List.mem_cons_of_mem _ this
theorem m_ar_len (E : mE) : ∀ as : List Value, (lg_sl (as.map (m_v E))).length = (m_ar as).length := by
  intro as
  induction as with
  | nil => rfl
  | cons a as ih =>
    have e : lg_sl ((a :: as).map (m_v E)) = lg_sl [m_v E a] ++ lg_sl (as.map (m_v E)) := by simp [lg_sl]
    rw [e, List.length_append, ih]
    by_cases hc : a.category = 2
    · simp [lg_sl, m_cat, m_ar, hc]; omega
    · have hb : (a.category == 2) = false := by simpa using hc
      simp [lg_sl, m_cat, m_ar, hc, hb]; omega
theorem m_ent_L (E : mE) (as : List Value) (n : Nat) (hn : (m_ar as).length ≤ n) : m_L E ((lg_sl (as.map (m_v E)) ++ List.replicate (n - (lg_sl (as.map (m_v E))).length) Slot.unset).toArray) n (m_ent as n) := by
  have h := lv_entry (as.map (m_v E)) (n := n) (by rw [m_ar_len]; exact hn)
  refine ⟨h.1, h.2.1, by simp [m_ent]; omega, fun i v hi => ?_⟩
  have hi2 : (m_ar as)[i]? = some (some v) := by
    unfold m_ent at hi
    by_cases hl : i < (m_ar as).length
    · rwa [List.getElem?_append_left hl] at hi
    · rw [List.getElem?_append_right (by omega)] at hi
      have := List.mem_of_getElem? hi
      rw [List.mem_replicate] at this
      cases this.2
  have := m_ar_args E as 0 i v hi2
  rw [Nat.zero_add] at this
  exact h.2.2 (i, m_v E v) this
theorem m_Sp_of {l : Launch} {EX : State → Prop} {E : mE} {M : mM} {d mc ms : Nat} {as : List Value} {h : mH} {tg : Bool} {PR : Option Value → mH → Bool → Prop} {PX : String → mH → Prop} (hy : plainName M.1.cls = true) (hn : (m_ar as).length ≤ M.2.2.1)
    (hJ : m_J l EX E M d mc ms PR PX tg 0 0 (0, m_ent as M.2.2.1, [], h)) : m_Sp l EX E M d mc ms as h tg PR PX := by
  obtain ⟨y, bytes, maxL, ret, hh, o, tb⟩ := M
  have body : ∀ (p : Program) (e : Env) (s : State) (m : MethodId) (args : Array Value) (below : List Frame) (meth : Method) (c : Code) (s₁ : State), BodyLoose p l y (headSpec (m_ws (y, bytes, maxL, ret, hh, o, tb)) (m_rm d mc ms)) bytes maxL ret e s m args below meth c s₁ → c.maxLocals = maxL → c.exceptionTable.toList = tableOf hh →
      va_Pc (as.map (m_v E)) (fun U => m_R E tg h U.heap ∧ va_K E.2.2.1 m_cl (m_tys E) U ∧ EX U) args s → W p l e (headSpec (m_ws (y, bytes, maxL, ret, hh, o, tb)) (m_rm d mc ms)).room s m args below meth c s.heap [] 0 0 (vx_MQ below (m_Qc E PR) (m_XC E PX) args s mc ms (fun q => E.1 ≤ q)) (entryFrame m args maxL) := by
    intro p e s m args below meth c s₁ B hml htab hv
    obtain ⟨rfl, hR, hK, hE⟩ := hv
    have hts := atoms_spec (ws := m_ws (y, bytes, maxL, ret, hh, o, tb)) B.pre
    rw [lg_entry_eq]
    exact hJ p e s m _ below meth c s.heap [] _ ⟨B.exec, B.bytes, B.returns, hml, findClass_of_methodNamed B.named, fun w hw => hts w (List.mem_cons_of_mem _ hw), hK, B.notSynchronized, (name_of_methodNamed B.named B.method).1, htab, hE, Nat.le_trans (Nat.le_add_right _ _) hR.2.1, hR.2.2.2.1⟩ hR (Nat.le_refl _) (fun ht => by have := hR.2.2.1 ht; exact this) (fun q hq => by cases hq) (m_ent_L E as maxL hn)
  cases hh with
  | nil =>
    refine vx_ofW (cc := bytes) (maxL := maxL) (ret := ret) hy rfl ?_
    intro p e s m args below meth c s₁ B hml ht hv
    refine body p e s m args below meth c s₁ B hml ?_ hv
    cases hl : c.exceptionTable.toList with
    | nil => rfl
    | cons x xs => exact (ht x (by rw [hl]; simp)).elim
  | cons q hh =>
    refine vx_ofWH (cc := bytes) (maxL := maxL) (ret := ret) (hh := q :: hh) hy rfl ?_
    intro p e s m args below meth c s₁ B hml hv
    exact body p e s m args below meth c s₁ B hml (vx_table (x := y) B (atoms_spec (ws := m_ws (y, bytes, maxL, ret, q :: hh, o, tb)) B.pre _ List.mem_cons_self)) hv
/-- a throw that has come over this body's frame, at pc -/
def m_JX (l : Launch) (EX : State → Prop) (E : mE) (M : mM) (d mc ms : Nat) (PR : Option Value → mH → Bool → Prop) (PX : String → mH → Prop) (kc ks : Nat) (nm : String) (pc : Nat) (L : List (Option Value)) (h : mH) : Prop :=
  ∀ (p : Program) (e : Env) (s : State) (m : MethodId) (args : Array Value) (below : List Frame) (meth : Method) (c : Code) (H : Heap) (locs : List Loc) (ls : Array Slot) (q : Addr) (ce : Cell) (rest : List Value),
    m_X EX E M p s m args meth c → m_R E false h H → s.heap.size ≤ H.size → (∀ q ∈ locs, E.1 ≤ q.base) → m_L E ls M.2.2.1 L → H[q]? = some ce → ce.vm = .none → s.vm.findClass nm = some ce.cls →
    vx_W p l e (m_rm d mc ms) s m args below meth c H locs kc ks (vx_MQ below (m_Qc E PR) (m_XC E PX) args s mc ms (fun q => E.1 ≤ q)) (F0 m pc ls rest) q
theorem m_JX_out {l : Launch} {EX : State → Prop} {E : mE} {M : mM} {d mc ms : Nat} {PR : Option Value → mH → Bool → Prop} {PX : String → mH → Prop} {kc ks : Nat} {nm : String} {pc : Nat} {L : List (Option Value)} {h : mH} (hh : M.2.2.2.2.1 = []) (hc : kc ≤ mc) (hs : ks ≤ ms) (hp : PX nm h) : m_JX l EX E M d mc ms PR PX kc ks nm pc L h := by
  intro p e s m args below meth c H locs ls q ce rest hX hR hz1 hlo hL hq hv hcl
  refine vx_out (fun x hx => ?_) hX.2.2.2.2.2.2.2.1 hq hv hcl (fun t ht _ => ⟨⟨h, hp, by rw [ht]; exact hR⟩, by rw [ht]; exact hz1⟩) hlo hc hs
  rw [hX.2.2.2.2.2.2.2.2.2.1, hh] at hx
  cases hx
theorem m_blind {E : mE} {tg : Bool} {h : mH} {EX : State → Prop} (hEX : ∀ s U : State, s.WarmedH U.vm → EX s → EX U) (av : List Value) : FrameBlind (va_Pc av (fun U => m_R E tg h U.heap ∧ va_K E.2.2.1 m_cl (m_tys E) U ∧ EX U)) := by
  intro a U g mk q
  obtain ⟨q0, q1, q2, q3⟩ := q
  exact ⟨q0, q1, va_K.moved (u := U) (U := U.calling g mk a) (Vm.Alike.refl U.vm) q2, hEX U _ (State.WarmedH.refl U) q3⟩
section
variable {l : Launch} {EX : State → Prop} {E : mE} {M M' : mM} {d mc ms : Nat} {PR : Option Value → mH → Bool → Prop} {PX : String → mH → Prop} {tg : Bool} {kc ks : Nat} {pc t : Nat} {L : List (Option Value)} {h : mH}
variable {p : Program} {e : Env} {s : State} {m : MethodId} {args : Array Value} {below : List Frame} {meth : Method} {c : Code} {mc' ms' : Nat} {as rest : List Value} {PR' : Option Value → mH → Bool → Prop} {PX' : String → mH → Prop}
theorem m_mem_tbl {w : Cond} (hX : m_X EX E M p s m args meth c) (hw : w ∈ m_tbl) : ∀ (a' : Array Value) (U : State), s.WarmedH U.vm → w.before a' U = true :=
  fun a' U hW => m_word_at hW (List.mem_filter.mp hw).2 (hX.2.2.2.2.2.1 w hw)
theorem m_vback (hX : m_X EX E M p s m args meth c) (hEX : ∀ s U : State, s.WarmedH U.vm → EX s → EX U) (hsp : m_Sp l EX E M' d mc' ms' as h tg PR' PX') (hcode : m_in (m_w1 M') = true) (hini : m_in (.initialized M'.1.cls) = true) (hmx : M'.2.2.1 ≤ 49) :
    vx_Back l (m_rm (d + 1) mc ms) p e below s args M'.1 3 40 (PreOf (m_rm (d + 1) mc ms) mc' ms' (va_Pc (as.map (m_v E)) (fun U => m_R E tg h U.heap ∧ va_K E.2.2.1 m_cl (m_tys E) U ∧ EX U))) (PostOf (m_Qc E PR') mc' ms' (fun q => E.1 ≤ q)) (vx_Post (m_XC E PX') mc' ms' (fun q => E.1 ≤ q)) := by
  have hws : ∀ w ∈ m_ws M', ∀ (a' : Array Value) (U : State), s.WarmedH U.vm → w.before a' U = true := by
    intro w hw
    rcases List.mem_cons.mp hw with rfl | hw
    · exact m_mem_tbl hX (m_in_mem hcode)
    · exact m_mem_tbl hX hw
  have hfr : (m_rm d mc' ms').frames + 1 ≤ (m_rm (d + 1) mc ms).frames := by simp [m_rm]; omega
  have hlo : 40 + (M'.2.2.1 + 11) + (m_rm d mc' ms').locals ≤ (m_rm (d + 1) mc ms).locals := by simp [m_rm]; omega
  obtain ⟨y, bytes, maxL, ret, hh, o, tb⟩ := M'
  cases hh with
  | nil => exact vx_back (bytes := bytes) (maxL := maxL) (ret := ret) hsp (m_blind hEX _) rfl rfl hfr hlo hws List.mem_cons_self (fun a' U hW => m_mem_tbl hX (m_in_mem hini) a' U hW)
  | cons q hh => exact vx_backW (bytes := bytes) (maxL := maxL) (ret := ret) (hh := q :: hh) hsp (m_blind hEX _) rfl rfl hfr hlo hws List.mem_cons_self (fun a' U hW => m_mem_tbl hX (m_in_mem hini) a' U hW)
theorem m_vl (E : mE) (v : Option Value) (rest : List Value) : (v.map (m_v E)).toList ++ rest.map (m_v E) = (v.toList ++ rest).map (m_v E) := by cases v <;> simp
/-- behind a call: it returned, or threw -/
theorem m_after {H : Heap} {locs : List Loc} {ls : Array Slot} {T : State} {st : List Value} {aa : Array Value} {Q : State → Prop} {R : Room}
    (hz1 : s.heap.size ≤ H.size) (hz2 : tg = true → s.heap.size + kc ≤ E.1 + h.length) (hlo : ∀ q ∈ locs, E.1 ≤ q.base) (hT : T.heap = H)
    (kR : ∀ v h' tg', PR' v h' tg' → (tg' = true → tg = true ∧ h.length + mc' ≤ h'.length) ∧ ∀ H1 locs1, m_R E tg' h' H1 → s.heap.size ≤ H1.size → (tg' = true → s.heap.size + (kc + mc') ≤ E.1 + h'.length) → (∀ q ∈ locs1, E.1 ≤ q.base) → W p l e R s m args below meth c H1 locs1 (kc + mc') (ks + ms') Q (F0 m (pc + 3) ls ((v.toList ++ rest).map (m_v E))))
    (kX : ∀ nm h', PX' nm h' → ∀ H1 locs1 q ce, m_R E false h' H1 → s.heap.size ≤ H1.size → (∀ q ∈ locs1, E.1 ≤ q.base) → H1[q]? = some ce → ce.vm = .none → s.vm.findClass nm = some ce.cls → vx_W p l e R s m args below meth c H1 locs1 (kc + mc') (ks + ms') Q (F0 m pc ls (rest.map (m_v E))) q)
    (hr : (∃ (v : Option Value) (vm₁ : Vm) (B : Pt), s.WarmedH vm₁ ∧ Stand p l e R s m args below meth c B.U B.locs B.cells B.slots ∧ PostOf (m_Qc E PR') mc' ms' (fun q => E.1 ≤ q) ⟨T.setVm vm₁, locs, kc, ks⟩ aa v B ∧
      ∀ target, Steps p.tables e below (B.U.setTop { F0 m pc ls st with pc := pc + 3, stack := v.toList ++ rest.map (m_v E) }) target → Steps p.tables e below (T.setTop (F0 m pc ls st)) target) ∨
    (∃ (q : Addr) (vm₁ : Vm) (B : Pt), s.WarmedH vm₁ ∧ Stand p l e R s m args below meth c B.U B.locs B.cells B.slots ∧ vx_Post (m_XC E PX') mc' ms' (fun q => E.1 ≤ q) ⟨T.setVm vm₁, locs, kc, ks⟩ aa q B ∧
      Steps p.tables e below (T.setTop (F0 m pc ls st)) ((B.U.setTop { F0 m pc ls st with stack := rest.map (m_v E) }).pushFrame (.throwing q)))) :
    ∃ t, Steps p.tables e below (T.setTop (F0 m pc ls st)) t ∧ Q t := by
  rcases hr with ⟨v, vm₁, ⟨U', l2, c2, s2⟩, hW₁, X', ⟨g', mk, t, LL, e1, e2, hq, h1, hL1, h2, h3⟩, stp⟩ | ⟨q, vm₁, ⟨U', l2, c2, s2⟩, hW₁, X', ⟨g', mk, t, LL, nm, ce, e1, e2, hx, hce, hcv, hcl, h1, hL1, h2, h3⟩, stp⟩
  · dsimp only [Pt.U, Pt.locs, Pt.cells, Pt.slots] at X' e1 e2 h1 h2 h3 stp
    subst h1; subst h2; subst h3
    obtain ⟨⟨v', h', tg', ev, hp, hR1⟩, hsz⟩ := hq
    cases ev
    have hsz2 : H.size ≤ U'.heap.size := by rw [e1, ← hT]; exact hsz
    obtain ⟨htt, kk⟩ := kR v' h' tg' hp
    obtain ⟨t2, a1, b1⟩ := kk U'.heap (locs ++ LL) (by rw [e1]; exact hR1) (Nat.le_trans hz1 hsz2) (fun ht => by
        obtain ⟨ht1, hl⟩ := htt ht
        have := hz2 ht1
        omega) (fun q hq => by
        rcases List.mem_append.mp hq with hq | hq
        · exact hlo q hq
        · exact hL1 q hq) U' rfl X'
    rw [← m_vl] at a1
    exact ⟨t2, stp t2 a1, b1⟩
  · dsimp only [Pt.U, Pt.locs, Pt.cells, Pt.slots] at X' e1 e2 h1 h2 h3 stp hcl
    subst h1; subst h2; subst h3
    obtain ⟨⟨h', hp, hR1⟩, hsz⟩ := hx
    have hsz2 : H.size ≤ U'.heap.size := by rw [e1, ← hT]; exact hsz
    obtain ⟨t2, a1, b1⟩ := kX nm h' hp U'.heap (locs ++ LL) q ce (by rw [e1]; exact hR1) (Nat.le_trans hz1 hsz2) (fun q hq => by
        rcases List.mem_append.mp hq with hq | hq
        · exact hlo q hq
        · exact hL1 q hq) (by rw [e1]; exact hce) hcv (vx_cls hW₁ hcl) U' rfl X'
    exact ⟨t2, stp.trans a1, b1⟩
end
/-- the words of a call -/
def m_ar1 (M' : mM) (n : Nat) : Bool := match parseMethodDescriptor M'.1.desc with
  | some sig => decide (sig.parameters.length = n)
  | none => true
def m_cw0 (M' : mM) (n : Nat) : Bool := m_in (m_w1 M') && m_in (.initialized M'.1.cls) && Nat.ble M'.2.2.1 49 && m_ar1 M' n && decide (M'.1.cls ≠ "java/lang/invoke/MethodHandle") && decide (M'.1.cls ≠ "java/lang/invoke/VarHandle")
def m_cwS (M : mM) (i : Nat) (M' : mM) (n : Nat) : Bool := m_cw0 M' n && m_in (.methodLink M.1.cls i M'.1) && m_in (.static M'.1)
def m_cwV (M : mM) (i : Nat) (M' : mM) (n : Nat) : Bool := m_cw0 M' n && m_in (.methodLink M.1.cls i M'.1) && m_in (.instanceMethod M'.1) && m_in (.selects M'.1.cls M'.1 M'.1)
def m_cwI (M : mM) (i : Nat) (M' : mM) (n : Nat) : Bool := m_cw0 M' n && m_in (.methodLink M.1.cls i M'.1) && m_in (.instanceMethod M'.1) && decide (M'.1.name = "<init>") && decide (M'.2.2.2.1 = none)
def m_cwN (M : mM) (i : Nat) (M' : mM) (n : Nat) : Bool := m_cw0 M' n && m_in (.methodLinkNest M.1.cls i M'.1 "LandUses") && m_in (.instanceMethod M'.1) && decide (M'.1.name = "<init>") && decide (M'.2.2.2.1 = none)
theorem m_cw0_spec {M' : mM} {n : Nat} (h : m_cw0 M' n = true) : m_in (m_w1 M') = true ∧ m_in (.initialized M'.1.cls) = true ∧ M'.2.2.1 ≤ 49 ∧ (∀ sig, parseMethodDescriptor M'.1.desc = some sig → n = sig.parameters.length) ∧ (M'.1.cls ≠ "java/lang/invoke/MethodHandle" ∧ M'.1.cls ≠ "java/lang/invoke/VarHandle") := by
  simp only [m_cw0, Bool.and_eq_true, decide_eq_true_eq] at h
  obtain ⟨⟨⟨⟨⟨h1, h2⟩, h3⟩, h4⟩, h5⟩, h6⟩ := h
  refine ⟨h1, h2, Nat.le_of_ble_eq_true h3, fun sig hs => ?_, h5, h6⟩
  unfold m_ar1 at h4
  rw [hs] at h4
  exact (of_decide_eq_true h4).symm
section
variable {l : Launch} {EX : State → Prop} {E : mE} {M M' : mM} {d mc ms : Nat} {PR : Option Value → mH → Bool → Prop} {PX : String → mH → Prop} {tg : Bool} {kc ks : Nat} {pc t : Nat} {L : List (Option Value)} {h : mH}
variable {mc' ms' i : Nat} {as rest st : List Value} {PR' : Option Value → mH → Bool → Prop} {PX' : String → mH → Prop}
set_option maxHeartbeats 1000000 in
theorem m_J_callS (hEX : ∀ s U : State, s.WarmedH U.vm → EX s → EX U) (hM : m_okM M = true) (hf : (m_tb M).lookup pc = some (.invokestatic i, t)) (hcw : m_cwS M i M' as.length = true) (hst : st = as.reverse ++ rest) (hrs : (rest.map fun v => v.category).sum ≤ 40) (hc : kc + mc' ≤ mc) (hs : ks + ms' ≤ ms)
    (hsp : m_Sp l EX E M' d mc' ms' as h tg PR' PX')
    (kR : ∀ v h' tg', PR' v h' tg' → (tg' = true → tg = true ∧ h.length + mc' ≤ h'.length) ∧ m_J l EX E M (d + 1) mc ms PR PX tg' (kc + mc') (ks + ms') (pc + 3, L, v.toList ++ rest, h'))
    (kX : ∀ nm h', PX' nm h' → m_JX l EX E M (d + 1) mc ms PR PX (kc + mc') (ks + ms') nm pc L h') : m_J l EX E M (d + 1) mc ms PR PX tg kc ks (pc, L, st, h) := by
  subst hst
  obtain ⟨n, hd1, hn1, -⟩ := m_dec hM hf
  have hd : decode M.2.1 pc = .ok (.invokestatic i, 3) := by rw [hd1, hn1 rfl]; rfl
  simp only [m_cwS, Bool.and_eq_true] at hcw
  obtain ⟨⟨hcw, hl1⟩, hl2⟩ := hcw
  obtain ⟨w1, w2, w3, w4, w5⟩ := m_cw0_spec hcw
  intro p e s m args below meth c H locs ls hX hR hz1 hz2 hlo hL T hT X
  have hb : decode c.code (F0 m pc ls ((as.reverse ++ rest).map (m_v E))).pc = .ok (.invokestatic i, 3) := by rw [hX.2.1]; exact hd
  have hK := m_vback (p := p) (e := e) (below := below) (mc := mc) (ms := ms) hX hEX hsp w1 w2 w3
  have hstk : (F0 m pc ls ((as.reverse ++ rest).map (m_v E))).stack = (as.map (m_v E)).reverse ++ rest.map (m_v E) := by simp
  have hcat : 2 * (F0 m pc ls ((as.reverse ++ rest).map (m_v E))).monitorRoom + ((rest.map (m_v E)).map fun v => v.category).sum ≤ 40 := by
    have e0 : (rest.map (m_v E)).map (fun v => v.category) = rest.map (fun v => v.category) := by rw [List.map_map]; exact List.map_congr_left (fun v _ => m_cat E v)
    rw [e0]; simpa [JFrame.monitorRoom] using hrs
  have hpre : ∀ vm₁, s.WarmedH vm₁ → PreOf (m_rm (d + 1) mc ms) mc' ms' (va_Pc (as.map (m_v E)) (fun U => m_R E tg h U.heap ∧ va_K E.2.2.1 m_cl (m_tys E) U ∧ EX U)) ⟨T.setVm vm₁, locs, kc, ks⟩ (as.map (m_v E)).toArray :=
    fun vm₁ hW₁ => ⟨hc, hs, rfl, by show m_R E tg h T.heap; rw [hT]; exact hR, va_K.moved (u := s) (U := T.setVm vm₁) hW₁.alike hX.2.2.2.2.2.2.1, hEX s (T.setVm vm₁) hW₁ hX.2.2.2.2.2.2.2.2.2.2.1⟩
  have hcode := m_mem_tbl hX (m_in_mem w1) args s (State.WarmedH.refl s)
  obtain ⟨y, bytes, maxL, ret, hh, o, tb⟩ := M'
  refine m_after (mc' := mc') (ms' := ms') (PR' := PR') (PX' := PX') hz1 hz2 hlo hT (fun v h' tg' hp => ⟨(kR v h' tg' hp).1, fun H1 locs1 a1 a2 a3 a4 => (kR v h' tg' hp).2 p e s m args below meth c H1 locs1 ls hX a1 a2 a3 a4 hL⟩) (fun nm h' hp H1 locs1 q ce a1 a2 a3 a4 a5 a6 => kX nm h' hp p e s m args below meth c H1 locs1 ls q ce _ hX a1 a2 a3 hL a4 a5 a6) (aa := (as.map (m_v E)).toArray) ?_
  cases hh with
  | nil => exact vx_callS X hX.1 (bytes := bytes) (maxL := maxL) (ret := ret) hX.2.2.2.2.1 (hX.2.2.2.2.2.1 _ (m_in_mem hl1)) (hX.2.2.2.2.2.1 _ (m_in_mem hl2)) (hX.2.2.2.2.2.1 _ (m_in_mem w2)) hcode w5 hK rfl (hL.1.trans hX.2.2.2.1.symm) (argsL := as.map (m_v E)) (fun sig hs => by rw [List.length_map]; exact w4 sig hs) hstk hcat hb hpre
  | cons q hh => exact vx_callSX X hX.1 (bytes := bytes) (maxL := maxL) (ret := ret) (hh := q :: hh) hX.2.2.2.2.1 (hX.2.2.2.2.2.1 _ (m_in_mem hl1)) (hX.2.2.2.2.2.1 _ (m_in_mem hl2)) (hX.2.2.2.2.2.1 _ (m_in_mem w2)) hcode w5 hK rfl (hL.1.trans hX.2.2.2.1.symm) (argsL := as.map (m_v E)) (fun sig hs => by rw [List.length_map]; exact w4 sig hs) hstk hcat hb hpre
set_option maxHeartbeats 1000000 in
theorem m_J_callV (hEX : ∀ s U : State, s.WarmedH U.vm → EX s → EX U) (hM : m_okM M = true) (hf : (m_tb M).lookup pc = some (.invokevirtual i, t)) (hcw : m_cwV M i M' as.length = true) (hh0 : M'.2.2.2.2.1 = []) {b ci : Nat} {fs : List Value} (hst : st = as.reverse ++ .ref b :: rest) (hob : h[b]? = some (.inr (ci, fs))) (hci : ∃ r, m_cl[ci]? = some r ∧ r.1 = M'.1.cls) (hrs : (rest.map fun v => v.category).sum ≤ 40) (hc : kc + mc' ≤ mc) (hs : ks + ms' ≤ ms)
    (hsp : m_Sp l EX E M' d mc' ms' (.ref b :: as) h tg PR' PX')
    (kR : ∀ v h' tg', PR' v h' tg' → (tg' = true → tg = true ∧ h.length + mc' ≤ h'.length) ∧ m_J l EX E M (d + 1) mc ms PR PX tg' (kc + mc') (ks + ms') (pc + 3, L, v.toList ++ rest, h'))
    (kX : ∀ nm h', PX' nm h' → m_JX l EX E M (d + 1) mc ms PR PX (kc + mc') (ks + ms') nm pc L h') : m_J l EX E M (d + 1) mc ms PR PX tg kc ks (pc, L, st, h) := by
  subst hst
  obtain ⟨n, hd1, hn1, -⟩ := m_dec hM hf
  have hd : decode M.2.1 pc = .ok (.invokevirtual i, 3) := by rw [hd1, hn1 rfl]; rfl
  simp only [m_cwV, Bool.and_eq_true] at hcw
  obtain ⟨⟨⟨hcw, hl1⟩, hl2⟩, hl3⟩ := hcw
  obtain ⟨w1, w2, w3, w4, w5⟩ := m_cw0_spec hcw
  intro p e s m args below meth c H locs ls hX hR hz1 hz2 hlo hL T hT X
  have hb : decode c.code (F0 m pc ls ((as.reverse ++ .ref b :: rest).map (m_v E))).pc = .ok (.invokevirtual i, 3) := by rw [hX.2.1]; exact hd
  have hK := m_vback (p := p) (e := e) (below := below) (mc := mc) (ms := ms) hX hEX hsp w1 w2 w3
  have hstk : (F0 m pc ls ((as.reverse ++ .ref b :: rest).map (m_v E))).stack = (as.map (m_v E)).reverse ++ .ref (m_ad E b) :: rest.map (m_v E) := by simp [m_v]
  have hcat : 2 * (F0 m pc ls ((as.reverse ++ .ref b :: rest).map (m_v E))).monitorRoom + ((rest.map (m_v E)).map fun v => v.category).sum ≤ 40 := by
    have e0 : (rest.map (m_v E)).map (fun v => v.category) = rest.map (fun v => v.category) := by rw [List.map_map]; exact List.map_congr_left (fun v _ => m_cat E v)
    rw [e0]; simpa [JFrame.monitorRoom] using hrs
  have hpre : ∀ vm₁, s.WarmedH vm₁ → PreOf (m_rm (d + 1) mc ms) mc' ms' (va_Pc ((Value.ref b :: as).map (m_v E)) (fun U => m_R E tg h U.heap ∧ va_K E.2.2.1 m_cl (m_tys E) U ∧ EX U)) ⟨T.setVm vm₁, locs, kc, ks⟩ (Value.ref (m_ad E b) :: as.map (m_v E)).toArray :=
    fun vm₁ hW₁ => ⟨hc, hs, rfl, by show m_R E tg h T.heap; rw [hT]; exact hR, va_K.moved (u := s) (U := T.setVm vm₁) hW₁.alike hX.2.2.2.2.2.2.1, hEX s (T.setVm vm₁) hW₁ hX.2.2.2.2.2.2.2.2.2.2.1⟩
  have hcode := m_mem_tbl hX (m_in_mem w1) args s (State.WarmedH.refl s)
  obtain ⟨r, hr1, hr2⟩ := hci
  obtain ⟨cellB, hcB, hoB, hclB⟩ := va_recv hX.2.2.2.2.2.2.1 hR.1 hr1 (m_W_get (E := E) hob)
  obtain ⟨y, bytes, maxL, ret, hh, o, tb⟩ := M'
  dsimp only at hh0 hr2
  subst hh0
  refine m_after (mc' := mc') (ms' := ms') (PR' := PR') (PX' := PX') hz1 hz2 hlo hT (fun v h' tg' hp => ⟨(kR v h' tg' hp).1, fun H1 locs1 a1 a2 a3 a4 => (kR v h' tg' hp).2 p e s m args below meth c H1 locs1 ls hX a1 a2 a3 a4 hL⟩) (fun nm h' hp H1 locs1 q ce a1 a2 a3 a4 a5 a6 => kX nm h' hp p e s m args below meth c H1 locs1 ls q ce _ hX a1 a2 a3 hL a4 a5 a6) (aa := (Value.ref (m_ad E b) :: as.map (m_v E)).toArray) ?_
  exact vx_callV X hX.1 (C := y.cls) (bytes := bytes) (maxL := maxL) (ret := ret) hX.2.2.2.2.1 (hX.2.2.2.2.2.1 _ (m_in_mem hl1)) (hX.2.2.2.2.2.1 _ (m_in_mem hl2)) (hX.2.2.2.2.2.1 _ (m_in_mem hl3)) hcode w5 hK (by rw [hT]; exact hcB) hoB (by rw [← hr2]; exact hclB) rfl (hL.1.trans hX.2.2.2.1.symm) (argsL := as.map (m_v E)) (fun sig hs => by rw [List.length_map]; exact w4 sig hs) hstk hcat hb hpre
end
end
section
/-! CONSTRUCTORS AND NEW CELLS of the small machine -/
section
variable {l : Launch} {EX : State → Prop} {E : mE} {M M' : mM} {d mc ms : Nat} {PR : Option Value → mH → Bool → Prop} {PX : String → mH → Prop} {tg : Bool} {kc ks : Nat} {pc t : Nat} {L : List (Option Value)} {h : mH}
variable {mc' ms' i : Nat} {as rest st : List Value} {PR' : Option Value → mH → Bool → Prop}
theorem m_back0 {p : Program} {e : Env} {R : Room} {below : List Frame} {s : State} {sargs : Array Value} {y : MethodName} {len W9 : Nat} {Pre : Pt → Array Value → Prop} {Post : Pt → Array Value → Option Value → Pt → Prop} {PostX : Pt → Array Value → Addr → Pt → Prop} (h : vx_Back l R p e below s sargs y len W9 Pre Post PostX) (hX : ∀ A a q B, ¬ PostX A a q B) : Back l R p e below s sargs y len W9 Pre Post := by
  intro m meth c A g ig mk a X hg hsize hdg hW hn hp
  rcases h m meth c A g ig mk a X hg hsize hdg hW hn hp with h1 | ⟨q, B, -, h2, -⟩
  · exact h1
  · exact (hX _ _ _ _ h2).elim
set_option maxHeartbeats 1000000 in
theorem m_J_callI (nest : Bool) (hEX : ∀ s U : State, s.WarmedH U.vm → EX s → EX U) (hM : m_okM M = true) (hf : (m_tb M).lookup pc = some (.invokespecial i, t)) (hcw : (bif nest then m_cwN M i M' as.length else m_cwI M i M' as.length) = true) (hh0 : M'.2.2.2.2.1 = []) {b : Nat} (hst : st = as.reverse ++ .ref b :: rest) (hrs : (rest.map fun v => v.category).sum ≤ 40) (hc : kc + mc' ≤ mc) (hs : ks + ms' ≤ ms)
    (hsp : m_Sp l EX E M' d mc' ms' (.ref b :: as) h tg PR' (fun _ _ => False))
    (kR : ∀ v h' tg', PR' v h' tg' → (tg' = true → tg = true ∧ h.length + mc' ≤ h'.length) ∧ m_J l EX E M (d + 1) mc ms PR PX tg' (kc + mc') (ks + ms') (pc + 3, L, v.toList ++ rest, h')) : m_J l EX E M (d + 1) mc ms PR PX tg kc ks (pc, L, st, h) := by
  subst hst
  obtain ⟨n, hd1, hn1, -⟩ := m_dec hM hf
  have hd : decode M.2.1 pc = .ok (.invokespecial i, 3) := by rw [hd1, hn1 rfl]; rfl
  have hcw2 : m_cw0 M' as.length = true ∧ m_in (.instanceMethod M'.1) = true ∧ M'.1.name = "<init>" ∧ M'.2.2.2.1 = none ∧ (nest = false → m_in (.methodLink M.1.cls i M'.1) = true) ∧ (nest = true → m_in (.methodLinkNest M.1.cls i M'.1 "LandUses") = true) := by
    cases nest with
    | false =>
      simp only [cond_false, m_cwI, Bool.and_eq_true, decide_eq_true_eq] at hcw
      exact ⟨hcw.1.1.1.1, hcw.1.1.2, hcw.1.2, hcw.2, fun _ => hcw.1.1.1.2, fun h => by cases h⟩
    | true =>
      simp only [cond_true, m_cwN, Bool.and_eq_true, decide_eq_true_eq] at hcw
      exact ⟨hcw.1.1.1.1, hcw.1.1.2, hcw.1.2, hcw.2, (fun h => by cases h), fun _ => hcw.1.1.1.2⟩
  obtain ⟨hcw, hl2, hini, hret, hlk, hln⟩ := hcw2
  obtain ⟨w1, w2, w3, w4, w5⟩ := m_cw0_spec hcw
  intro p e s m args below meth c H locs ls hX hR hz1 hz2 hlo hL T hT X
  have hb : decode c.code (F0 m pc ls ((as.reverse ++ .ref b :: rest).map (m_v E))).pc = .ok (.invokespecial i, 3) := by rw [hX.2.1]; exact hd
  have hK := m_back0 (m_vback (p := p) (e := e) (below := below) (mc := mc) (ms := ms) hX hEX hsp w1 w2 w3) (fun A a q B hp => by
    obtain ⟨_, _, _, _, _, _, _, _, ⟨⟨_, hf, _⟩, _⟩, _⟩ := hp
    exact hf)
  have hstk : (F0 m pc ls ((as.reverse ++ .ref b :: rest).map (m_v E))).stack = (as.map (m_v E)).reverse ++ .ref (m_ad E b) :: rest.map (m_v E) := by simp [m_v]
  have hcat : 2 * (F0 m pc ls ((as.reverse ++ .ref b :: rest).map (m_v E))).monitorRoom + ((rest.map (m_v E)).map fun v => v.category).sum ≤ 40 := by
    have e0 : (rest.map (m_v E)).map (fun v => v.category) = rest.map (fun v => v.category) := by rw [List.map_map]; exact List.map_congr_left (fun v _ => m_cat E v)
    rw [e0]; simpa [JFrame.monitorRoom] using hrs
  have hpre : ∀ vm₁, s.WarmedH vm₁ → PreOf (m_rm (d + 1) mc ms) mc' ms' (va_Pc ((Value.ref b :: as).map (m_v E)) (fun U => m_R E tg h U.heap ∧ va_K E.2.2.1 m_cl (m_tys E) U ∧ EX U)) ⟨T.setVm vm₁, locs, kc, ks⟩ (Value.ref (m_ad E b) :: as.map (m_v E)).toArray :=
    fun vm₁ hW₁ => ⟨hc, hs, rfl, by show m_R E tg h T.heap; rw [hT]; exact hR, va_K.moved (u := s) (U := T.setVm vm₁) hW₁.alike hX.2.2.2.2.2.2.1, hEX s (T.setVm vm₁) hW₁ hX.2.2.2.2.2.2.2.2.2.2.1⟩
  have hcode := m_mem_tbl hX (m_in_mem w1) args s (State.WarmedH.refl s)
  obtain ⟨y, bytes, maxL, ret, hh, o, tb⟩ := M'
  dsimp only at hh0 hret
  subst hh0
  subst hret
  refine m_after (mc' := mc') (ms' := ms') (PR' := PR') (PX' := fun _ _ => False) hz1 hz2 hlo hT (fun v h' tg' hp => ⟨(kR v h' tg' hp).1, fun H1 locs1 a1 a2 a3 a4 => (kR v h' tg' hp).2 p e s m args below meth c H1 locs1 ls hX a1 a2 a3 a4 hL⟩) (fun nm h' hp => hp.elim) (aa := (Value.ref (m_ad E b) :: as.map (m_v E)).toArray) (Or.inl ?_)
  cases nest with
  | false => exact callI X hX.1 (bytes := bytes) (maxL := maxL) hX.2.2.2.2.1 hini (hX.2.2.2.2.2.1 _ (m_in_mem (hlk rfl))) (hX.2.2.2.2.2.1 _ (m_in_mem hl2)) hcode w5 hK rfl (hL.1.trans hX.2.2.2.1.symm) (argsL := as.map (m_v E)) (fun sig hs => by rw [List.length_map]; exact w4 sig hs) hstk hcat hb hpre
  | true => exact va_callIN X hX.1 (bytes := bytes) (maxL := maxL) hX.2.2.2.2.1 hini (hX.2.2.2.2.2.1 _ (m_in_mem (hln rfl))) (hX.2.2.2.2.2.1 _ (m_in_mem hl2)) hcode w5 hK rfl (hL.1.trans hX.2.2.2.1.symm) (argsL := as.map (m_v E)) (fun sig hs => by rw [List.length_map]; exact w4 sig hs) hstk hcat hb hpre
def m_oi (M : mM) (i : Nat) : Bool := m_in (.methodLink M.1.cls i objectInit) && m_in (.instanceMethod objectInit) && m_in (.code objectInit ⟨#[0xb1]⟩ 1 none)
/-- Object's own constructor -/
theorem m_J_obj (hM : m_okM M = true) (hf : (m_tb M).lookup pc = some (.invokespecial i, t)) (hw : m_oi M i = true) {b : Nat} (hrs : (rest.map fun v => v.category).sum ≤ 40) (hJ : m_J l EX E M d mc ms PR PX tg kc ks (pc + 3, L, rest, h)) : m_J l EX E M d mc ms PR PX tg kc ks (pc, L, .ref b :: rest, h) := by
  obtain ⟨n, hd1, hn1, -⟩ := m_dec hM hf
  have hd : decode M.2.1 pc = .ok (.invokespecial i, 3) := by rw [hd1, hn1 rfl]; rfl
  simp only [m_oi, Bool.and_eq_true] at hw
  intro p e s m args below meth c H locs ls hX hR hz1 hz2 hlo hL
  refine W.objInit (idx := i) (a := m_ad E b) (rest := rest.map (m_v E)) hX.1 hX.2.1 hX.2.2.2.2.1 (hX.2.2.2.2.2.1 _ (m_in_mem hw.1.1)) (hX.2.2.2.2.2.1 _ (m_in_mem hw.1.2)) (hX.2.2.2.2.2.1 _ (m_in_mem hw.2)) rfl (hL.1.trans hX.2.2.2.1.symm) rfl hd (by simp [m_rm]; omega) ?_ (hJ p e s m args below meth c H locs ls hX hR hz1 hz2 hlo hL)
  have e0 : (rest.map (m_v E)).map (fun v => v.category) = rest.map (fun v => v.category) := by rw [List.map_map]; exact List.map_congr_left (fun v _ => m_cat E v)
  rw [e0]
  simp [JFrame.monitorRoom, m_rm]; omega
/-- the heap with one cell more -/
theorem m_R_push {H H1 : Heap} {x : va_E} (hR : m_R E true h H) (hlen : h.length < 1000000) (hz : H1.size = H.size + 1) (ho : ∀ q, q < H.size → H1[q]? = H[q]?) (hx : va_at E.2.2.1 m_cl (H.size, m_c E x) H1) : m_R E true (h ++ [x]) H1 := by
  have e0 : H.size = E.1 + h.length := Nat.le_antisymm (hR.2.2.1 rfl) hR.2.1
  refine ⟨fun k q hq => ?_, by rw [List.length_append]; simp; omega, fun _ => by rw [List.length_append]; simp; omega, fun q hq => ?_, by rw [List.length_append]; simp; omega, hR.2.2.2.2.2⟩
  · have hk : k < h.length + 1 := by
      have := (List.getElem?_eq_some_iff.mp hq).1
      simpa [m_W] using this
    simp only [m_W, List.getElem?_mapIdx] at hq
    by_cases hkl : k < h.length
    · rw [List.getElem?_append_left hkl] at hq
      have hg : (m_W E h)[k]? = some q := by simp only [m_W, List.getElem?_mapIdx]; exact hq
      have h9 := hR.1 k q hg
      exact h9.kept (ho _ h9.lt)
    · have hke : k = h.length := by omega
      subst hke
      rw [List.getElem?_append_right (Nat.le_refl _)] at hq
      simp at hq
      subst hq
      have ea : m_ad E h.length = H.size := by simp [m_ad, hlen, e0]
      rw [ea]
      exact hx
  · rw [ho q (by omega)]; exact hR.2.2.2.1 q hq
def m_nw (M : mM) (i ci : Nat) : Bool := match m_cl[ci]? with
  | some r => m_in (.classLink M.1.cls i r.1) && m_in (.instantiable r.1 r.2.2) && m_in (.initialized r.1)
  | none => false
def m_df : FieldType → Value
  | .int | .boolean | .byte | .char | .short => .int 0
  | .long => .long 0
  | .float => .float 0
  | .double => .double 0
  | _ => .null
/-- a new object -/
theorem m_J_new {ci N : Nat} {fs : List Value} (hM : m_okM M = true) (hf : (m_tb M).lookup pc = some (.new i, t)) (hw : m_nw M i ci = true) (hN : (m_cl.getD ci (RX0, TX0, 2)).2.2 = N) (hfs : fs = (List.range N).map (fun k => defaultValue (m_tyf ci k))) (hnr : (List.range N).all (fun k => match defaultValue (m_tyf ci k) with
      | .ref _ => false
      | _ => true) = true) (hlen : h.length < 1000000) (hc : kc + 1 ≤ mc) (hs : ks + N ≤ ms)
    (hJ : m_J l EX E M d mc ms PR PX true (kc + 1) (ks + N) (pc + 3, L, .ref h.length :: st, h ++ [.inr (ci, fs)])) : m_J l EX E M d mc ms PR PX true kc ks (pc, L, st, h) := by
  obtain ⟨n, hd1, hn1, -⟩ := m_dec hM hf
  have hd : decode M.2.1 pc = .ok (.new i, 3) := by rw [hd1, hn1 rfl]; rfl
  unfold m_nw at hw
  cases hq : m_cl[ci]? with
  | none => rw [hq] at hw; cases hw
  | some r =>
    rw [hq] at hw
    simp only [Bool.and_eq_true] at hw
    rw [List.getD_eq_getElem?_getD, hq] at hN
    have hN : r.2.2 = N := hN
    obtain ⟨C, TT, N'⟩ := r
    dsimp only at hN hw
    subst hN
    obtain ⟨hty, hnm, hin⟩ := m_cl_spec hq
    intro p e s m args below meth c H locs ls hX hR hz1 hz2 hlo hL
    have hKn := hX.2.2.2.2.2.2.1.1 ci _ hq
    have e0 : H.size = E.1 + h.length := Nat.le_antisymm (hR.2.2.1 rfl) hR.2.1
    refine W.newcK hX.1 hX.2.1 hX.2.2.2.2.1 (hX.2.2.2.2.2.1 _ (m_in_mem hw.1.1)) (hX.2.2.2.2.2.1 _ (m_in_mem hw.1.2)) (hX.2.2.2.2.2.1 _ (m_in_mem hw.2)) rfl hd hc hs hKn.2.1 rfl fun H1 kC hkC e1 z1 o1 => ?_
    have ea : m_ad E h.length = H.size := by simp [m_ad, hlen, e0]
    have hx : va_at E.2.2.1 m_cl (H.size, m_c E (.inr (ci, fs))) H1 := by
      refine ⟨_, hq, (u_born (m_tyf ci) hX.2.2.2.2.2.1 hin hKn hkC e1 hty).to (fun j hj => ?_)⟩
      simp only [vp_V, hfs]
      have hall := List.all_eq_true.mp hnr j (List.mem_range.mpr hj)
      rw [List.getD_eq_getElem?_getD, List.getElem?_map, List.getElem?_map, List.getElem?_range hj]
      simp only [Option.map_some, Option.getD_some]
      cases hdv : defaultValue (m_tyf ci j) <;> first | rfl | (rw [hdv] at hall; cases hall)
    have hz9 : s.heap.size + kc ≤ E.1 + h.length := hz2 rfl
    have hw9 : W p l e (m_rm d mc ms) s m args below meth c H1 locs (kc + 1) (ks + N') (vx_MQ below (m_Qc E PR) (m_XC E PX) args s mc ms (fun q => E.1 ≤ q)) (F0 m (pc + 3) ls (.ref (m_ad E h.length) :: st.map (m_v E))) := hJ p e s m args below meth c H1 locs ls hX (m_R_push hR hlen z1 o1 hx) (by rw [z1]; omega) (fun _ => by rw [List.length_append]; simp; omega) hlo hL
    rw [ea] at hw9
    exact hw9
/-- a new array of numbers -/
theorem m_J_newa {at0 : ArrayType} {ti N : Nat} {n : Int32} {a0 : vp_A} (hM : m_okM M = true) (hf : (m_tb M).lookup pc = some (.newarray at0, t)) (hw : m_in (.arrayClass (newarray.typeOf at0)) = true) (hti : m_ty[ti]? = some (newarray.typeOf at0)) (ha : ∀ cA : ClassId, vp_cell cA a0 = arrV cA N (fun _ => defaultValue (newarray.typeOf at0)))
    (hac : m_c E (.inl (ti, a0)) = .inl (E.2.2.2.1 ti, a0)) (hn : ¬ n < 0) (hN : n.toNatClampNeg = N) (hbytes : N * componentBytes (newarray.typeOf at0) ≤ 536870912) (hprim : ∀ U cA, va_RA U cA (newarray.typeOf at0) → U.vm.findClass ("[" ++ (newarray.typeOf at0).toString) = some cA) (hlen : h.length < 1000000) (hc : kc + 1 ≤ mc) (hs : ks + N ≤ ms)
    (hJ : m_J l EX E M d mc ms PR PX true (kc + 1) (ks + N) (pc + 2, L, .ref h.length :: st, h ++ [.inl (ti, a0)])) : m_J l EX E M d mc ms PR PX true kc ks (pc, L, .int n :: st, h) := by
  obtain ⟨n9, hd1, hn1, -⟩ := m_dec hM hf
  have hd : decode M.2.1 pc = .ok (.newarray at0, 2) := by rw [hd1, hn1 rfl]; rfl
  intro p e s m args below meth c H locs ls hX hR hz1 hz2 hlo hL
  have e0 : H.size = E.1 + h.length := Nat.le_antisymm (hR.2.2.1 rfl) hR.2.1
  refine va_newaK hX.1 hX.2.1 (hX.2.2.2.2.2.1 _ (m_in_mem hw)) rfl hd rfl hn hN hbytes hc hs rfl fun H1 cA e1 z1 o1 hAr hNm => ?_
  have ea : m_ad E h.length = H.size := by simp [m_ad, hlen, e0]
  have hcA : E.2.2.2.1 ti = cA := Option.some.inj ((hprim s _ (hX.2.2.2.2.2.2.1.2 ti _ (m_tys_get E hti)).2).symm.trans hNm)
  have hx : va_at E.2.2.1 m_cl (H.size, m_c E (.inl (ti, a0))) H1 := by
    rw [hac, hcA]
    show H1[H.size]? = some (vp_cell cA a0)
    rw [ha]
    exact e1
  have hz9 : s.heap.size + kc ≤ E.1 + h.length := hz2 rfl
  have hw9 : W p l e (m_rm d mc ms) s m args below meth c H1 locs (kc + 1) (ks + N) (vx_MQ below (m_Qc E PR) (m_XC E PX) args s mc ms (fun q => E.1 ≤ q)) (F0 m (pc + 2) ls (.ref (m_ad E h.length) :: st.map (m_v E))) := hJ p e s m args below meth c H1 locs ls hX (m_R_push hR hlen z1 o1 hx) (by rw [z1]; omega) (fun _ => by rw [List.length_append]; simp; omega) hlo hL
  rw [ea] at hw9
  exact hw9
end
end
section
theorem zz1 : (vx_atS RX8 252 "java/lang/IndexOutOfBoundsException" ["java/lang/RuntimeException", "java/lang/Exception"]).all m_in = true := by decide +kernel
theorem zz2 : (vx_atS RX8 101 "java/lang/IllegalArgumentException" ["java/lang/RuntimeException", "java/lang/Exception"]).all m_in = true := by decide +kernel
end
