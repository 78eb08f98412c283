section
def va_AOA (ty : FieldType) (U : State) : Prop := (Cond.arrayOver (.array ty)).before #[] U = true
theorem va_AOA.use {ty : FieldType} {A : Array Value} {U : State} (h : va_AOA ty U) : (Cond.arrayOver (.array ty)).before A U = true := h
/-! ===== BEGIN words of one list among another's, by their places ===== -/
theorem goodIn_r {big : List Cond} (ws : List Cond) (ps : List Nat) (hp : ws = ps.filterMap (fun i => big[i]?)) (h : ws.all goodWord = true) : GoodIn big ws := by
  intro w hw
  have h1 := List.all_eq_true.mp h w hw
  rw [hp] at hw
  obtain ⟨i, -, hi⟩ := List.mem_filterMap.mp hw
  have hm : w ∈ big := by first | exact List.mem_of_getElem? hi | exact List.getElem?_mem hi
  exact ⟨hm, good_of_word h1⟩
theorem goodIn_app {big a b : List Cond} (ha : GoodIn big a) (hb : GoodIn big b) : GoodIn big (a ++ b) := fun w h => (List.mem_append.mp h).elim (ha w) (hb w)
theorem goodIn_ca {big a b : List Cond} {c : Cond} (ha : GoodIn big (c :: a)) (hb : GoodIn big b) : GoodIn big (c :: (a ++ b)) := fun w h => (List.mem_cons.mp h).elim (fun e => ha w (List.mem_cons.mpr (Or.inl e))) (fun h => (List.mem_append.mp h).elim (fun h => ha w (List.mem_cons.mpr (Or.inr h))) (hb w))
theorem goodIn_sub {big ws : List Cond} (hm : ∀ w ∈ ws, w ∈ big) (h : ws.all goodWord = true) : GoodIn big ws := fun w hw => ⟨hm w hw, good_of_word (List.all_eq_true.mp h w hw)⟩
/-! ===== END ===== -/

/-! ===== BEGIN new T[n][m]: the outer array a place, the inner ones among the pooled ===== -/
/-- f, but v at every address of l -/
def vr_up {α : Type} (f : Nat → α) (l : List Nat) (v : α) : Nat → α := fun a => if a ∈ l then v else f a
theorem vr_up_in {α : Type} {f : Nat → α} {l : List Nat} {v : α} {a : Nat} (h : a ∈ l) : vr_up f l v a = v := if_pos h
theorem vr_up_ne {α : Type} {f : Nat → α} {l : List Nat} {v : α} {a : Nat} (h : a ∉ l) : vr_up f l v a = f a := if_neg h
theorem vr_rows {L l : List Nat} {f : Nat → va_E} {e : va_E} (h : ∀ a, a ∈ l → a ∉ L) : va_pl L f ++ l.map (fun a => (a, e)) = va_pl (L ++ l) (vr_up f l e) := by
  unfold va_pl
  rw [List.map_append]
  congr 1
  · apply List.map_congr_left
    intro a ha
    rw [vr_up_ne (fun q => h a q ha)]
  · apply List.map_congr_left
    intro a ha
    rw [vr_up_in ha]
theorem vr_lay {X rows : va_W} {x : Nat × va_E} {pl : va_W} {D : va_G} {cl : List vw_C} {H : Heap} (hP : va_P D cl (((X ++ pl) ++ [x]) ++ rows) H) : va_P D cl ((X ++ [x]) ++ (pl ++ rows)) H := by
  rw [List.append_assoc (X ++ pl)] at hP
  have h := va_P.swap hP
  rw [← List.append_assoc X] at h
  have h2 := va_P.swap h
  rw [List.append_assoc (X ++ [x])] at h2
  exact h2
theorem vr_layD {X rows : va_W} {x : Nat × va_E} {pl : va_W} {A : Nat → Prop} (hD : va_D A (((X ++ pl) ++ [x]) ++ rows)) : va_D A ((X ++ [x]) ++ (pl ++ rows)) := by
  rw [List.append_assoc (X ++ pl)] at hD
  have h := va_D.swap hD
  rw [← List.append_assoc X] at h
  have h2 := va_D.swap h
  rw [List.append_assoc (X ++ [x])] at h2
  exact h2
theorem vr_outer (c : ClassId) (N h0 : Nat) : ∀ i : Nat, Jvm.Free.Multi.outerC c N h0 i = arrV c N (fun j => va_rf (if j < i then some (h0 + 1 + j) else none))
  | 0 => by
    show ({ cls := c, slots := Array.replicate N .null, vm := .none } : Cell) = _
    rw [arrV_new]
    refine congrArg (arrV c N) (funext fun j => ?_)
    simp [va_rf]
  | i + 1 => by
    show (Jvm.Free.Multi.outerC c N h0 i).setSlot i (.ref (h0 + 1 + i)) = _
    rw [vr_outer c N h0 i, arrV_store]
    refine congrArg (arrV c N) (funext fun j => ?_)
    by_cases e : j = i
    · subst e
      simp [updV, va_rf]
    · by_cases h : j < i
      · simp [updV, e, h, Nat.lt_succ_of_lt h]
      · simp [updV, e, h, show ¬ j < i + 1 by omega]
section VGM
variable {p : Program} {l : Launch} {e : Env} {R : Room} {s : State} {m : MethodId} {args : Array Value} {below : List Frame} {meth : Method} {c : Code} {H : Heap} {locs : List Loc} {cells slots : Nat} {Q : State → Prop}
variable {cc : ByteArray} {pc : Nat} {ls : Array Slot} {rest : List Value} {D : va_G} {cl : List vw_C} {A : Nat → Prop} {a : Nat} {tys : List (ClassId × FieldType)} {ws : va_W} {H0 : Heap}
theorem va_mna {X : va_W} {L : List Nat} {f : Nat → va_E} {cc : ByteArray} (hexec : p.tables.exec = Jvm.exec) (hb : c.code = cc) {own : String} {index : Nat} {ty : FieldType} {cy : ClassId} (hown : s.vm.findClass own = some m.cls) (hclink : (Cond.classLink own index ("[" ++ (FieldType.array ty).toString)).before args s = true) (hover : va_AOA ty s) (harr : (Cond.arrayClass ty).before args s = true) (hcy : s.vm.findClass (FieldType.array ty).toString = some cy)
    (hK : va_K D cl tys s) (hP : va_P D cl (X ++ va_pl L f) H) (hD : va_D A (X ++ va_pl L f)) (hS : va_S A H0 H locs) (hA : ∀ q, H0.size ≤ q → A q) {n k : Int32} {N' K' : Nat} {z : vp_A} (hn : ¬ n < 0) (hk : ¬ k < 0) (hN : n.toNatClampNeg = N') (hM : k.toNatClampNeg = K')
    (hb1 : N' * 4 ≤ 536870912) (hb2 : K' * componentBytes ty ≤ 536870912) (hb3 : K' ≤ 536870912) (hdf : fits ty (defaultValue ty) = true) (hdd : (defaultValue ty).isDefault = true) (hcells : cells + (1 + N') ≤ R.cells) (hslots : slots + (N' + N' * K') ≤ R.slots) (hz : ∀ c : ClassId, Jvm.Free.Multi.innerC c K' (defaultValue ty) = vp_cell c z) (hdg : decode cc pc = .ok (.multianewarray index 2, 4))
    (kk : ∀ (q : Nat) (r : Nat → Nat) (cA : ClassId) (H1 : Heap), (∀ i j : Nat, i < N' → j < N' → r i = r j → i = j) → (∀ i : Nat, i < N' → r i ∉ L) → va_K D cl (tys ++ [(cA, .array ty)]) s →
      va_P D cl ((X ++ [(q, .inl (cA, N', .inr (.inr (.inr (.inr (fun i => if i < N' then some (r i) else none))))))]) ++ va_pl (L ++ (List.range N').map r) (vr_up f ((List.range N').map r) (.inl (cy, z)))) H1 → va_D A ((X ++ [(q, .inl (cA, N', .inr (.inr (.inr (.inr (fun i => if i < N' then some (r i) else none))))))]) ++ va_pl (L ++ (List.range N').map r) (vr_up f ((List.range N').map r) (.inl (cy, z)))) → va_S A H0 H1 locs →
      W p l e R s m args below meth c H1 locs (cells + 1 + N') (slots + N' + N' * K') Q (F0 m (pc + 4) ls (.ref q :: rest))) : W p l e R s m args below meth c H locs cells slots Q (F0 m pc ls (.int k :: .int n :: rest)) := by
  subst hN
  subst hM
  intro T hT Xs
  obtain ⟨vm₁, cA, comp, -, fA, fC, hO, -, X', step⟩ := Xs.multianewarray2F hexec hown hclink (va_AOA.use hover) harr (g := F0 m pc ls (.int k :: .int n :: rest)) rfl (by rw [hb]; exact hdg) rfl hn hk hb1 hb2 hb3 hdf hdd hcells hslots
  have ec : some cy = some comp := hcy.symm.trans fC
  cases ec
  generalize hF : Jvm.Free.Multi.fill (T.setVm vm₁) cA cy n.toNatClampNeg k.toNatClampNeg (defaultValue ty) n.toNatClampNeg = F at X' step
  have hTh : (T.setVm vm₁).heap = H := hT
  obtain ⟨f1, f2, -, -⟩ := Jvm.Free.Multi.fill_facts (T.setVm vm₁) cA cy n.toNatClampNeg k.toNatClampNeg (defaultValue ty) n.toNatClampNeg
  rw [hF, hTh] at f1 f2
  have hold : ∀ x : Nat, x < H.size → F.heap[x]? = H[x]? := fun x hx => by
    have := Jvm.Free.Multi.fill_old (T.setVm vm₁) cA cy n.toNatClampNeg k.toNatClampNeg (defaultValue ty) (a := x) (by rw [hTh]; exact hx) n.toNatClampNeg
    rw [hF, hTh] at this
    exact this
  have hrow : ∀ j : Nat, j < n.toNatClampNeg → F.heap[H.size + 1 + j]? = some (vp_cell cy z) := fun j hj => by
    have := Jvm.Free.Multi.fill_inner (T.setVm vm₁) cA cy n.toNatClampNeg k.toNatClampNeg (defaultValue ty) n.toNatClampNeg j hj
    rw [hF, hTh, hz] at this
    exact this
  have hout : Jvm.Free.Multi.outerC cA n.toNatClampNeg H.size n.toNatClampNeg = vp_cell cA (n.toNatClampNeg, .inr (.inr (.inr (.inr (fun i => if i < n.toNatClampNeg then some (H.size + 1 + i) else none))))) := by
    rw [vp_cell_q]
    exact vr_outer cA n.toNatClampNeg H.size n.toNatClampNeg
  rw [hout] at f2
  have hlt : ∀ a, a ∈ L → a < H.size := fun a ha => by
    obtain ⟨k9, hk9⟩ := va_pl_get (X := X) (f := f) ha
    exact (hP k9 _ hk9).lt
  have hnl : ∀ i : Nat, i < n.toNatClampNeg → H.size + 1 + i ∉ L := fun i _ h => by
    have := hlt _ h
    omega
  have hnm : ∀ a, a ∈ (List.range n.toNatClampNeg).map (fun i => H.size + 1 + i) → a ∉ L := fun a ha h => by
    obtain ⟨i, -, rfl⟩ := List.mem_map.mp ha
    have := hlt _ h
    omega
  have hP0 : va_P D cl (X ++ va_pl L f) F.heap := hP.kept (fun k9 x hx => hold x.1 ((hP k9 x hx).lt))
  have hP1 : va_P D cl ((X ++ va_pl L f) ++ [(H.size, .inl (cA, n.toNatClampNeg, .inr (.inr (.inr (.inr (fun i => if i < n.toNatClampNeg then some (H.size + 1 + i) else none))))))]) F.heap := hP0.app (fun k9 x hx => by
    have h0 : k9 < 1 := (List.getElem?_eq_some_iff.mp hx).1
    rw [show k9 = 0 by omega] at hx
    cases hx
    exact f2)
  have hP2 : va_P D cl (((X ++ va_pl L f) ++ [(H.size, .inl (cA, n.toNatClampNeg, .inr (.inr (.inr (.inr (fun i => if i < n.toNatClampNeg then some (H.size + 1 + i) else none))))))]) ++ ((List.range n.toNatClampNeg).map (fun i => H.size + 1 + i)).map (fun a => (a, .inl (cy, z)))) F.heap := hP1.app (fun k9 x hx => by
    obtain ⟨a, ha, rfl⟩ := List.mem_map.mp (List.mem_of_getElem? hx)
    obtain ⟨i, hi, rfl⟩ := List.mem_map.mp ha
    exact hrow i (List.mem_range.mp hi))
  have hD2 : va_D A (((X ++ va_pl L f) ++ [(H.size, .inl (cA, n.toNatClampNeg, .inr (.inr (.inr (.inr (fun i => if i < n.toNatClampNeg then some (H.size + 1 + i) else none))))))]) ++ ((List.range n.toNatClampNeg).map (fun i => H.size + 1 + i)).map (fun a => (a, .inl (cy, z)))) := by
    have hD1 := hD.push (e := .inl (cA, n.toNatClampNeg, .inr (.inr (.inr (.inr (fun i => if i < n.toNatClampNeg then some (H.size + 1 + i) else none)))))) hP rfl (hA _ hS.1)
    generalize hW1 : (X ++ va_pl L f) ++ [(H.size, .inl (cA, n.toNatClampNeg, .inr (.inr (.inr (.inr (fun i => if i < n.toNatClampNeg then some (H.size + 1 + i) else none))))))] = W1 at hD1 hP1 ⊢
    have hle : ∀ (k9 : Nat) (x : Nat × va_E), W1[k9]? = some x → x.1 ≤ H.size := fun k9 x hx => by
      rw [← hW1] at hx
      by_cases hl : k9 < (X ++ va_pl L f).length
      · rw [List.getElem?_append_left hl] at hx
        exact Nat.le_of_lt ((hP k9 x hx).lt)
      · rw [List.getElem?_append_right (by omega)] at hx
        have h0 : k9 - (X ++ va_pl L f).length < 1 := (List.getElem?_eq_some_iff.mp hx).1
        rw [show k9 - (X ++ va_pl L f).length = 0 by omega] at hx
        cases hx
        exact Nat.le_refl _
    have hr : ∀ (k9 : Nat) (x : Nat × va_E), (((List.range n.toNatClampNeg).map (fun i => H.size + 1 + i)).map (fun a => ((a, .inl (cy, z)) : Nat × va_E)))[k9]? = some x → x.1 = H.size + 1 + k9 := fun k9 x hx => by
      rw [List.getElem?_map, List.getElem?_map] at hx
      by_cases h9 : k9 < n.toNatClampNeg
      · rw [List.getElem?_range h9] at hx
        cases hx
        rfl
      · have hn0 : (List.range n.toNatClampNeg)[k9]? = none := List.getElem?_eq_none (by rw [List.length_range]; omega)
        rw [hn0] at hx
        cases hx
    refine ⟨fun i j x y hi hj hxy => ?_, fun k9 x hx => ?_⟩
    · by_cases h1 : i < W1.length <;> by_cases h2 : j < W1.length
      · rw [List.getElem?_append_left h1] at hi
        rw [List.getElem?_append_left h2] at hj
        exact hD1.1 i j x y hi hj hxy
      · rw [List.getElem?_append_left h1] at hi
        rw [List.getElem?_append_right (by omega)] at hj
        have := hle _ _ hi
        have := hr _ _ hj
        omega
      · rw [List.getElem?_append_right (by omega)] at hi
        rw [List.getElem?_append_left h2] at hj
        have := hle _ _ hj
        have := hr _ _ hi
        omega
      · rw [List.getElem?_append_right (by omega)] at hi hj
        have := hr _ _ hi
        have := hr _ _ hj
        omega
    · by_cases h1 : k9 < W1.length
      · rw [List.getElem?_append_left h1] at hx
        exact hD1.2 k9 x hx
      · rw [List.getElem?_append_right (by omega)] at hx
        have := hr _ _ hx
        exact hA _ (by have := hS.1; omega)
  have hAr : ArrOfT s cA (.array ty) := fun N9 z9 => by
    obtain ⟨-, k9, hk9, cm9, hkk9⟩ := (hO 0 0 0).1
    exact ⟨(fun q hq => by cases hq), k9, hk9, cm9, hkk9⟩
  have hK2 : va_K D cl (tys ++ [(cA, .array ty)]) s := ⟨hK.1, fun k9 x hx => by
    by_cases hl : k9 < tys.length
    · rw [List.getElem?_append_left hl] at hx
      exact hK.2 k9 x hx
    · rw [List.getElem?_append_right (by omega)] at hx
      have h0 : k9 - tys.length < 1 := (List.getElem?_eq_some_iff.mp hx).1
      rw [show k9 - tys.length = 0 by omega] at hx
      cases hx
      exact ⟨hAr, fA⟩⟩
  obtain ⟨t, a1, b1⟩ := kk H.size (fun i => H.size + 1 + i) cA F.heap (fun i j _ _ h => by have h9 : H.size + 1 + i = H.size + 1 + j := h; omega) hnl hK2 (by rw [← vr_rows hnm]; exact vr_lay hP2) (by rw [← vr_rows hnm]; exact vr_layD hD2) ⟨by rw [f1]; have := hS.1; omega, fun x h1 h2 => (hold x (Nat.lt_of_lt_of_le h1 hS.1)).trans (hS.2.1 x h1 h2), hS.2.2⟩ F rfl X'
  refine ⟨t, step t ?_, b1⟩
  have e : T.heap.size = H.size := by rw [hT]
  rw [e]
  exact a1
end VGM
/-! ===== END ===== -/

/-! ===== BEGIN exceptions that leave a method, and their catching by the caller (launches without stack traces) ===== -/
section VXA
/-! The laws vx_back, vx_callV, vx_callS, vx_callSW, vx_throw0, vx_throwS follow proofs of the library, with one case more: JvmDerived/Free/Laws.lean (Back.of_free), Shelf42/LK1.lean (callV, callS), Shelf/KitTraced.lean (throwNew0V, throwNewS). -/
/-- where a method has thrown q: the class by its name, the cell, what was written, the world -/
def vx_T (XC : String → State → State → Prop) (st : State) (q : Addr) (t : State) (mc ms : Nat) (free : Addr → Prop) : Prop :=
  ∃ (E : String) (ce : Cell) (L : List Loc), XC E st t ∧ t.heap[q]? = some ce ∧ ce.vm = .none ∧ st.vm.findClass E = some ce.cls ∧ st.WarmedH t.vm ∧ st.sameButNew ({ t with vm := st.vm } : State) L mc ms ∧ ∀ z ∈ L, free z.base
def vx_Q (Qc : Array Value → State → Outcome → State → Prop) (XC : String → State → State → Prop) (mc ms : Nat) (free : Addr → Prop) : Array Value → State → Outcome → State → Prop := fun a st o t =>
  (Qc a st o t ∧ ∃ L, FrameEnd st o t L mc ms ∧ ∀ q ∈ L, free q.base) ∨ ∃ q, o = .threw q ∧ vx_T XC st q t mc ms free
/-- a callee that returns or throws -/
def vx_Met (l : Launch) (y : MethodName) (ws : List Cond) (rm : Room) (Pc : Array Value → State → Prop) (Qc : Array Value → State → Outcome → State → Prop) (XC : String → State → State → Prop) (mc ms : Nat) (free : Addr → Prop) : Prop :=
  MetFree l y (headSpec ws rm) Pc (fun _ _ _ _ _ => True) (vx_Q Qc XC mc ms free)
def vx_Post (XC : String → State → State → Prop) (mc ms : Nat) (free : Addr → Prop) : Pt → Array Value → Addr → Pt → Prop := fun A a q B =>
  ∃ (g : JFrame) (mk : MethodId) (t : State) (L : List Loc) (E : String) (ce : Cell), B.U.heap = t.heap ∧ B.U.vm = t.vm ∧ XC E (A.U.calling g mk a) t ∧ t.heap[q]? = some ce ∧ ce.vm = .none ∧ A.U.vm.findClass E = some ce.cls ∧ B.locs = A.locs ++ L ∧ (∀ z ∈ L, free z.base) ∧ B.cells = A.cells + mc ∧ B.slots = A.slots + ms
def vx_Back (l : Launch) (R : Room) (p : Program) (e : Env) (below : List Frame) (s : State) (sargs : Array Value) (y : MethodName) (len W9 : Nat)
    (Pre : Pt → Array Value → Prop) (Post : Pt → Array Value → Option Value → Pt → Prop) (PostX : Pt → Array Value → Addr → Pt → Prop) : Prop :=
  ∀ (m : MethodId) (meth : Method) (c : Code) (A : Pt) (g : JFrame) (ig : Instr) (mk : MethodId) (a : Array Value),
    Stand p l e R s m sargs below meth c A.U A.locs A.cells A.slots → g.method = m → g.locals.size = c.maxLocals → decode c.code g.pc = .ok (ig, len) →
    2 * g.monitorRoom + (g.stack.map fun v => v.category).sum ≤ W9 → A.U.methodNamed? y = some mk → Pre A a →
    (∃ (v : Option Value) (B : Pt), Stand p l e R s m sargs below meth c B.U B.locs B.cells B.slots ∧ Post A a v B ∧
      Steps p.tables e below (doInvoke e (A.U.setTop g) [] mk a).1 (B.U.setTop { g with pc := g.pc + len, stack := v.toList ++ g.stack })) ∨
    (∃ (q : Addr) (B : Pt), Stand p l e R s m sargs below meth c B.U B.locs B.cells B.slots ∧ PostX A a q B ∧
      Steps p.tables e below (doInvoke e (A.U.setTop g) [] mk a).1 ((B.U.setTop g).pushFrame (.throwing q)))
section Payer
variable {l : Launch} {R : Room} {p : Program} {e : Env} {below : List Frame} {s : State} {sargs : Array Value} {y : MethodName} {len W9 : Nat}
theorem vx_back {ws : List Cond} {rm : Room} {Pc : Array Value → State → Prop} {Qc : Array Value → State → Outcome → State → Prop} {XC : String → State → State → Prop} {mc ms : Nat} {free : Addr → Prop} {bytes : ByteArray} {maxL : Nat} {ret : Option FieldType}
    (hM : vx_Met l y ws rm Pc Qc XC mc ms free) (hblind : FrameBlind Pc) (hrc : rm.cells = mc) (hrs : rm.slots = ms)
    (hframes : rm.frames + 1 ≤ R.frames) (hlocals : W9 + (maxL + 11) + rm.locals ≤ R.locals)
    (hws : ∀ w ∈ ws, ∀ a' U, s.WarmedH U.vm → w.before a' U = true) (hcode : Cond.code y bytes maxL ret ∈ ws) (hinit : ∀ a' U, s.WarmedH U.vm → (Cond.initialized y.cls).before a' U = true) :
    vx_Back l R p e below s sargs y len W9 (PreOf R mc ms Pc) (PostOf Qc mc ms free) (vx_Post XC mc ms free) := by
  intro m meth c A g ig mk a X hg hsize hdg hW hn hp
  have h1 : (headSpec ws rm).pre.before a A.U = true := atoms_intro fun w hw => hws w hw _ _ X.warmed
  have h2 : (Cond.code y bytes maxL ret).before a A.U = true := hws _ hcode _ _ X.warmed
  have h3 : (Cond.initialized y.cls).before a A.U = true := hinit _ _ X.warmed
  have h4 : A.cells + (headSpec ws rm).room.cells ≤ R.cells := by rw [show (headSpec ws rm).room.cells = mc from hrc]; exact hp.1
  have h5 : A.slots + (headSpec ws rm).room.slots ≤ R.slots := by rw [show (headSpec ws rm).room.slots = ms from hrs]; exact hp.2.1
  have hPc : Pc a (A.U.calling g mk a) := hblind _ _ _ _ hp.2.2
  obtain ⟨U, Ls, c0, s0⟩ := A
  dsimp only [Pt.U, Pt.locs, Pt.cells, Pt.slots] at h1 h2 h3 h4 h5 X hn hPc ⊢
  obtain ⟨methY, cY, hmY, hcY, -, hlY, -, -, -, -⟩ := Cond.code_spec hn h2
  obtain ⟨kY, hkY, -⟩ := className_of_methodNamed hn
  have hinitY : kY.init = .initialized := Cond.initialized_spec (findClass_of_methodNamed hn) hkY h3
  have h : At U g.method c below := by rw [hg]; exact X.here
  have hlocals9 : W9 + (maxL + 11) + (headSpec ws rm).room.locals ≤ R.locals := hlocals
  have happ : (headSpec ws rm).appliesLoose y e.platform (U.calling g mk a) = true :=
    Spec.appliesLoose_calling (g := g) h hdg hn hkY hinitY
      (X.room_calling (g := g) (R' := (headSpec ws rm).room) hsize hmY hcY hframes (by rw [hlY]; omega) h4 h5) h1
  obtain ⟨mid, hmid⟩ := h.above
  have hfr : (U.setTop g).frames = (.java g :: mid) ++ below := by rw [State.frames_setTop' g h.top, hmid]; rfl
  obtain ⟨o, s₂, hsteps, -, hend, hq⟩ := Steps.callFree hM p X.admits X.cas X.clock (acts := []) hfr happ hPc trivial
  have hq' : vx_Q Qc XC mc ms free a (U.calling g mk a) o s₂ := hq
  rw [State.frames_setTop' g h.top] at hend
  obtain ⟨g₀, hg0⟩ := Option.isSome_iff_exists.mp h.top
  obtain ⟨r, hr⟩ := State.topJava?_eq_some.mp hg0
  have hr' : (({ U with heap := s₂.heap, slotsUsed := s₂.slotsUsed } : State).setVm s₂.vm).frames = .java g₀ :: r := hr
  rcases hq' with ⟨hqc, L, hfe, hL⟩ | ⟨q, rfl, E, ce, L, hx, hce, hcv, hcl, hW₂, hsm, hL⟩
  · obtain ⟨⟨v, rfl⟩, hW₂, e2, q2, q3, q4, q5, q6⟩ := id hfe
    have e3 : s₂ = ({ (U.calling g mk a).setFrames s₂.frames with heap := s₂.heap, slotsUsed := s₂.slotsUsed } : State).setVm s₂.vm := by
      have : s₂ = ({ s₂ with vm := (U.calling g mk a).vm } : State).setVm s₂.vm := rfl
      rw [e2] at this
      exact this
    obtain ⟨c₂, i₂, len₂, hc₂, hd₂, hf₂⟩ := hend
    have hW' : U.WarmedH s₂.vm := hW₂
    have hcc : c₂ = c := by
      have h1 : s₂.code? g.method = U.code? g.method := by
        rw [State.code?_eq, State.code?_eq, hW'.alike.method?]
      exact Option.some.inj (hc₂.symm.trans (h1.trans h.code))
    subst hcc
    have hlen : len₂ = len := by rw [hdg] at hd₂; cases hd₂; rfl
    subst hlen
    have hs₂ : s₂ = (({ U with heap := s₂.heap, slotsUsed := s₂.slotsUsed } : State).setVm s₂.vm).setTop { g with pc := g.pc + len₂, stack := v.toList ++ g.stack } := by
      refine e3.trans ?_
      rw [hf₂, State.calling_eq h.top, State.setFrames_setFrames, State.setTop_of_frames _ hr', hr]
      rfl
    have hsame : U.sameButNew ({ U with heap := s₂.heap, slotsUsed := s₂.slotsUsed } : State) L mc ms := by
      refine ⟨?_, q2, q3, q4, q5, q6⟩
      obtain ⟨t, ht, -⟩ := State.frames_cons hr
      show ({ U with heap := s₂.heap, slotsUsed := s₂.slotsUsed } : State) = { U.setFrames U.frames with heap := s₂.heap, slotsUsed := s₂.slotsUsed }
      rw [State.setFrames_self ht]
    subst hg
    refine Or.inl ⟨v, ⟨(({ U with heap := s₂.heap, slotsUsed := s₂.slotsUsed } : State).setVm s₂.vm), Ls ++ L, c0 + mc, s0 + ms⟩,
      ⟨X.admits, X.cas, X.clock, X.frames, X.room, X.hears, X.method, X.code, (X.here.setHeapUsed s₂.heap s₂.slotsUsed).setVm hW'.alike, X.tail, State.WarmedH.trans X.warmed hW', X.limits, X.bytes, X.same.trans (hsame.setVm s.vm)⟩,
      ⟨g, mk, s₂, L, rfl, rfl, hqc, rfl, hL, rfl, rfl⟩, ?_⟩
    show Steps p.tables e below _ ((({ U with heap := s₂.heap, slotsUsed := s₂.slotsUsed } : State).setVm s₂.vm).setTop { g with pc := g.pc + len₂, stack := v.toList ++ g.stack })
    rw [← hs₂]
    exact hsteps
  · obtain ⟨e2, q2, q3, q4, q5, q6⟩ := id hsm
    have e3 : s₂ = ({ (U.calling g mk a).setFrames s₂.frames with heap := s₂.heap, slotsUsed := s₂.slotsUsed } : State).setVm s₂.vm := by
      have : s₂ = ({ s₂ with vm := (U.calling g mk a).vm } : State).setVm s₂.vm := rfl
      rw [e2] at this
      exact this
    have hf₂ : s₂.frames = .throwing q :: .java g :: U.frames.tail := hend
    have hW' : U.WarmedH s₂.vm := hW₂
    have hs₂ : s₂ = ((({ U with heap := s₂.heap, slotsUsed := s₂.slotsUsed } : State).setVm s₂.vm).setTop g).pushFrame (.throwing q) := by
      refine e3.trans ?_
      rw [hf₂, State.calling_eq h.top, State.setFrames_setFrames, State.pushFrame, State.frames_setTop _ hr', State.setTop_of_frames _ hr', State.setFrames_setFrames, hr]
      rfl
    have hsame : U.sameButNew ({ U with heap := s₂.heap, slotsUsed := s₂.slotsUsed } : State) L mc ms := by
      refine ⟨?_, q2, q3, q4, q5, q6⟩
      obtain ⟨t, ht, -⟩ := State.frames_cons hr
      show ({ U with heap := s₂.heap, slotsUsed := s₂.slotsUsed } : State) = { U.setFrames U.frames with heap := s₂.heap, slotsUsed := s₂.slotsUsed }
      rw [State.setFrames_self ht]
    subst hg
    refine Or.inr ⟨q, ⟨(({ U with heap := s₂.heap, slotsUsed := s₂.slotsUsed } : State).setVm s₂.vm), Ls ++ L, c0 + mc, s0 + ms⟩,
      ⟨X.admits, X.cas, X.clock, X.frames, X.room, X.hears, X.method, X.code, (X.here.setHeapUsed s₂.heap s₂.slotsUsed).setVm hW'.alike, X.tail, State.WarmedH.trans X.warmed hW', X.limits, X.bytes, X.same.trans (hsame.setVm s.vm)⟩,
      ⟨g, mk, s₂, L, E, ce, rfl, rfl, hx, hce, hcv, hcl, rfl, hL, rfl, rfl⟩, ?_⟩
    show Steps p.tables e below _ (((({ U with heap := s₂.heap, slotsUsed := s₂.slotsUsed } : State).setVm s₂.vm).setTop g).pushFrame (.throwing q))
    rw [← hs₂]
    exact hsteps
end Payer
section Calls
variable {p : Program} {l : Launch} {e : Env} {R : Room} {s : State} {m : MethodId} {args : Array Value} {below : List Frame} {meth : Method} {c : Code} {T : State} {locs : List Loc} {cells slots : Nat}
theorem vx_callV (X : Stand p l e R s m args below meth c T locs cells slots) (hexec : p.tables.exec = Jvm.exec) {own C : String} {index : Nat} {y : MethodName} {bytes : ByteArray} {maxL : Nat} {ret : Option FieldType}
    (hown : s.vm.findClass own = some m.cls) (hlink : (Cond.methodLink own index y).before args s = true) (hinst : (Cond.instanceMethod y).before args s = true) (hsel : (Cond.selects C y y).before args s = true)
    (hcode : (Cond.code y bytes maxL ret).before args s = true) (hy : y.cls ≠ "java/lang/invoke/MethodHandle" ∧ y.cls ≠ "java/lang/invoke/VarHandle")
    {W9 : Nat} {Pre : Pt → Array Value → Prop} {Post : Pt → Array Value → Option Value → Pt → Prop} {PostX : Pt → Array Value → Addr → Pt → Prop} (hK : vx_Back l R p e below s args y 3 W9 Pre Post PostX)
    {b : Addr} {cellB : Cell} (hcell : T.heap[b]? = some cellB) (hobj : cellB.vm.isStatics = false) (hcls : s.vm.findClass C = some cellB.cls)
    {g : JFrame} (hg : g.method = m) (hsize : g.locals.size = c.maxLocals) {argsL rest : List Value} (hlen : ∀ sig, parseMethodDescriptor y.desc = some sig → argsL.length = sig.parameters.length)
    (hstack : g.stack = argsL.reverse ++ .ref b :: rest) (hW : 2 * g.monitorRoom + (rest.map fun v => v.category).sum ≤ W9) (hdg : decode c.code g.pc = .ok (.invokevirtual index, 3))
    (hpre : ∀ vm₁, s.WarmedH vm₁ → Pre ⟨T.setVm vm₁, locs, cells, slots⟩ (Value.ref b :: argsL).toArray) :
    (∃ (v : Option Value) (vm₁ : Vm) (B : Pt), s.WarmedH vm₁ ∧ Stand p l e R s m args below meth c B.U B.locs B.cells B.slots ∧ Post ⟨T.setVm vm₁, locs, cells, slots⟩ (Value.ref b :: argsL).toArray v B ∧
      ∀ target, Steps p.tables e below (B.U.setTop { g with pc := g.pc + 3, stack := v.toList ++ rest }) target → Steps p.tables e below (T.setTop g) target) ∨
    (∃ (q : Addr) (vm₁ : Vm) (B : Pt), s.WarmedH vm₁ ∧ Stand p l e R s m args below meth c B.U B.locs B.cells B.slots ∧ PostX ⟨T.setVm vm₁, locs, cells, slots⟩ (Value.ref b :: argsL).toArray q B ∧
      Steps p.tables e below (T.setTop g) ((B.U.setTop { g with stack := rest }).pushFrame (.throwing q))) := by
  obtain ⟨mk, methM, hnamed, hmethM, hstM, habM⟩ := Cond.instanceMethod_spec hinst
  obtain ⟨methM', cM, hmethM', -, -, -, -, -, -, hsigM⟩ := Cond.code_spec hnamed hcode
  cases hmethM.symm.trans hmethM'
  obtain ⟨c2, r2, m2, q1, q2, q3, q4, kP, hkP, hkPi⟩ := Cond.selects_spec hsel
  cases hcls.symm.trans q1
  cases (State.methodFound?_of_named hnamed hy).symm.trans q2
  cases hnamed.symm.trans q3
  have hselP : selectMethod e.platform s.vm cellB.cls mk = .method mk := by rw [Launch.admits_selectMethod X.admits]; exact q4
  obtain ⟨vm₁, X₁, hstep₁⟩ := X.invokevirtual hexec hown hlink hnamed hmethM hstM hkP hkPi hy (a := b) (cell := cellB) hcell
    (fun z h => by rw [h] at hobj; cases hobj) hselP hmethM habM hkP hkPi (g := g) hg (argsL := argsL) (rest := rest) (hlen _ hsigM) hstack hdg
  rcases hK m meth c ⟨T.setVm vm₁, locs, cells, slots⟩ { g with stack := rest } (.invokevirtual index) mk (Value.ref b :: argsL).toArray X₁ hg hsize hdg hW (X₁.named hnamed) (hpre vm₁ X₁.warmed) with ⟨v, B, X', hpost, hsteps⟩ | ⟨q, B, X', hpost, hsteps⟩
  · exact Or.inl ⟨v, vm₁, B, X₁.warmed, X', hpost, fun target h => hstep₁ _ fun acts => by rw [doInvoke_state]; exact hsteps.trans h⟩
  · exact Or.inr ⟨q, vm₁, B, X₁.warmed, X', hpost, hstep₁ _ fun acts => by rw [doInvoke_state]; exact hsteps⟩
theorem vx_callS (X : Stand p l e R s m args below meth c T locs cells slots) (hexec : p.tables.exec = Jvm.exec) {own : String} {index : Nat} {y : MethodName} {bytes : ByteArray} {maxL : Nat} {ret : Option FieldType}
    (hown : s.vm.findClass own = some m.cls) (hlink : (Cond.methodLink own index y).before args s = true) (hstat : (Cond.static y).before args s = true) (hinit : (Cond.initialized y.cls).before args s = true)
    (hcode : (Cond.code y bytes maxL ret).before args s = true) (hy : y.cls ≠ "java/lang/invoke/MethodHandle" ∧ y.cls ≠ "java/lang/invoke/VarHandle")
    {W9 : Nat} {Pre : Pt → Array Value → Prop} {Post : Pt → Array Value → Option Value → Pt → Prop} {PostX : Pt → Array Value → Addr → Pt → Prop} (hK : vx_Back l R p e below s args y 3 W9 Pre Post PostX)
    {g : JFrame} (hg : g.method = m) (hsize : g.locals.size = c.maxLocals) {argsL rest : List Value} (hlen : ∀ sig, parseMethodDescriptor y.desc = some sig → argsL.length = sig.parameters.length)
    (hstack : g.stack = argsL.reverse ++ rest) (hW : 2 * g.monitorRoom + (rest.map fun v => v.category).sum ≤ W9) (hdg : decode c.code g.pc = .ok (.invokestatic index, 3))
    (hpre : ∀ vm₁, s.WarmedH vm₁ → Pre ⟨T.setVm vm₁, locs, cells, slots⟩ argsL.toArray) :
    (∃ (v : Option Value) (vm₁ : Vm) (B : Pt), s.WarmedH vm₁ ∧ Stand p l e R s m args below meth c B.U B.locs B.cells B.slots ∧ Post ⟨T.setVm vm₁, locs, cells, slots⟩ argsL.toArray v B ∧
      ∀ target, Steps p.tables e below (B.U.setTop { g with pc := g.pc + 3, stack := v.toList ++ rest }) target → Steps p.tables e below (T.setTop g) target) ∨
    (∃ (q : Addr) (vm₁ : Vm) (B : Pt), s.WarmedH vm₁ ∧ Stand p l e R s m args below meth c B.U B.locs B.cells B.slots ∧ PostX ⟨T.setVm vm₁, locs, cells, slots⟩ argsL.toArray q B ∧
      Steps p.tables e below (T.setTop g) ((B.U.setTop { g with stack := rest }).pushFrame (.throwing q))) := by
  obtain ⟨mk, hnamed⟩ := Cond.code_named hcode
  obtain ⟨methM, cM, hmethM, -, -, -, -, -, -, hsigM⟩ := Cond.code_spec hnamed hcode
  have hstatic : methM.isStatic = true := Cond.static_spec hnamed hmethM hstat
  obtain ⟨kP, hkP, -⟩ := className_of_methodNamed hnamed
  have hinitP : kP.init = .initialized := Cond.initialized_spec (findClass_of_methodNamed hnamed) hkP hinit
  obtain ⟨vm₁, X₁, hstep₁⟩ := X.invokestatic hexec hown hlink hnamed hmethM hstatic hkP hinitP hy (g := g) hg (argsL := argsL) (rest := rest) (hlen _ hsigM) hstack hdg
  rcases hK m meth c ⟨T.setVm vm₁, locs, cells, slots⟩ { g with stack := rest } (.invokestatic index) mk argsL.toArray X₁ hg hsize hdg hW (X₁.named hnamed) (hpre vm₁ X₁.warmed) with ⟨v, B, X', hpost, hsteps⟩ | ⟨q, B, X', hpost, hsteps⟩
  · exact Or.inl ⟨v, vm₁, B, X₁.warmed, X', hpost, fun target h => hstep₁ _ fun acts => by rw [doInvoke_state]; exact hsteps.trans h⟩
  · exact Or.inr ⟨q, vm₁, B, X₁.warmed, X', hpost, hstep₁ _ fun acts => by rw [doInvoke_state]; exact hsteps⟩
end Calls
theorem vx_cls {s : State} {T : State} {vm₁ : Vm} {E : String} {k : ClassId} (hW : s.WarmedH vm₁) (h : (T.setVm vm₁).vm.findClass E = some k) : s.vm.findClass E = some k := by
  have h1 : vm₁.findClass E = some k := h
  rw [hW.alike.findClass] at h1
  exact h1
/-- the method's frame g, with q thrown over it -/
def vx_W (p : Program) (l : Launch) (e : Env) (R : Room) (s : State) (m : MethodId) (args : Array Value) (below : List Frame) (meth : Method) (c : Code) (H : Heap) (locs : List Loc) (cells slots : Nat) (Q : State → Prop) (g : JFrame) (q : Addr) : Prop :=
  ∀ T : State, T.heap = H → Stand p l e R s m args below meth c T locs cells slots → ∃ t, Steps p.tables e below ((T.setTop g).pushFrame (.throwing q)) t ∧ Q t
def vx_Run (p : Program) (l : Launch) (e : Env) (R : Room) (s : State) (m : MethodId) (args : Array Value) (below : List Frame) (meth : Method) (c : Code) (H : Heap) (locs : List Loc) (cells slots mc ms : Nat) (g : JFrame) (rest : List Value) (Qa : State → Outcome → State → Prop) (XC : String → State → State → Prop) (free : Addr → Prop) : Prop :=
  ∀ T : State, T.heap = H → Stand p l e R s m args below meth c T locs cells slots →
    (∃ (v : Option Value) (st₀ t T' : State) (L : List Loc), st₀.heap = H ∧ Stand p l e R s m args below meth c T' (locs ++ L) (cells + mc) (slots + ms) ∧ (∀ q ∈ L, free q.base) ∧ T'.heap = t.heap ∧ T'.vm = t.vm ∧ Qa st₀ (.returned v) t ∧
      Goes p e below T g T' { g with pc := g.pc + 3, stack := v.toList ++ rest }) ∨
    (∃ (q : Addr) (st₀ t T' : State) (L : List Loc) (E : String) (ce : Cell), st₀.heap = H ∧ Stand p l e R s m args below meth c T' (locs ++ L) (cells + mc) (slots + ms) ∧ (∀ z ∈ L, free z.base) ∧ T'.heap = t.heap ∧ T'.vm = t.vm ∧ XC E st₀ t ∧ t.heap[q]? = some ce ∧ ce.vm = .none ∧ s.vm.findClass E = some ce.cls ∧
      Steps p.tables e below (T.setTop g) ((T'.setTop { g with stack := rest }).pushFrame (.throwing q)))
def vx_X {S : Type} (px : S → Prop) (B : String → S → State → Prop) (A : Nat → Prop) : String → State → State → Prop := fun E st t => ∃ u : S, px u ∧ B E u t ∧ va_F A st t
section Runs
variable {p : Program} {l : Launch} {e : Env} {R : Room} {s : State} {m : MethodId} {args : Array Value} {below : List Frame} {meth : Method} {c : Code} {H : Heap} {locs : List Loc} {cells slots : Nat}
variable {y : MethodName} {bytes cc : ByteArray} {maxL nL mc ms n index : Nat} {ret : Option FieldType} {ws : List Cond} {rm : Room} {Pc : Array Value → State → Prop} {Qc : Array Value → State → Outcome → State → Prop} {XC : String → State → State → Prop} {free : Addr → Prop} {Ts : List Cond} {own C : String} {b : Addr} {As rest : List Value} {g : JFrame}
theorem vx_callBack (cb : CallB R s args own index y bytes maxL ret ws rm mc ms n) (hM : vx_Met l y ws rm Pc Qc XC mc ms free) (hbl : FrameBlind Pc) : vx_Back l R p e below s args y 3 8 (PreOf R mc ms Pc) (PostOf Qc mc ms free) (vx_Post XC mc ms free) := by
  obtain ⟨hrc, hrs, hfr, hlo, hws, hcw, -, hini, -⟩ := cb
  exact vx_back (bytes := bytes) (maxL := maxL) (ret := ret) hM hbl hrc hrs hfr hlo hws hcw (fun a' U hW => word_at hW (Or.inl (by first | rfl | simp [Cond.onTables, Cond.keeps, Cond.steady])) hini)
theorem vx_runV (S : CallFix p m c cc nL s args Ts own) (hM : vx_Met l y ws rm Pc Qc XC mc ms free) (cw : CallW R s args own C index y bytes maxL ret ws rm mc ms n) (hp : PreV s H C b Pc As)
    (hg : g.method = m) (hn : As.length = n) (hsize : g.locals.size = nL) (hstack : g.stack = As.reverse ++ .ref b :: rest) (hW : 2 * g.monitorRoom + (rest.map fun v => v.category).sum ≤ 8) (hdg : decode cc g.pc = .ok (.invokevirtual index, 3)) (hf : cells + mc ≤ R.cells ∧ slots + ms ≤ R.slots) :
    vx_Run p l e R s m args below meth c H locs cells slots mc ms g rest (Qc (Value.ref b :: As).toArray) XC free := by
  have hK : vx_Back l R p e below s args y 3 8 (PreOf R mc ms Pc) (PostOf Qc mc ms free) (vx_Post XC mc ms free) := vx_callBack cw.1 hM hp.1
  obtain ⟨⟨-, -, -, -, -, -, hcode, -, hy, hlen, hl⟩, hin, hse⟩ := cw
  obtain ⟨hx, hb, hml, ho, -⟩ := S
  obtain ⟨-, ⟨cellB, hcB, hoB, hclB⟩, hPc⟩ := hp
  intro T hT X
  rcases vx_callV X hx (C := C) (bytes := bytes) (maxL := maxL) (ret := ret) ho hl hin hse hcode hy hK (by rw [hT]; exact hcB) hoB hclB hg (hsize.trans hml.symm) (argsL := As) (rest := rest) (fun sig h => hn.trans (hlen sig h)) hstack hW (by rw [hb]; exact hdg)
    (fun vm₁ hW₁ => ⟨hf.1, hf.2, hPc (T.setVm vm₁) hT hW₁⟩) with ⟨v, vm₁, ⟨U', l2, c2, s2⟩, hW₁, X', ⟨g', mk, t, L, e1, e2, hq, h1, hL, h2, h3⟩, st⟩ | ⟨q, vm₁, ⟨U', l2, c2, s2⟩, hW₁, X', ⟨g', mk, t, L, E, ce, e1, e2, hq, hce, hcv, hcl, h1, hL, h2, h3⟩, st⟩
  · dsimp only [Pt.U, Pt.locs, Pt.cells, Pt.slots] at X' e1 e2 h1 h2 h3 st
    subst h1; subst h2; subst h3
    exact Or.inl ⟨v, (T.setVm vm₁).calling g' mk (Value.ref b :: As).toArray, t, U', L, hT, X', hL, e1, e2, hq, st⟩
  · dsimp only [Pt.U, Pt.locs, Pt.cells, Pt.slots] at X' e1 e2 h1 h2 h3 st hcl
    subst h1; subst h2; subst h3
    exact Or.inr ⟨q, (T.setVm vm₁).calling g' mk (Value.ref b :: As).toArray, t, U', L, E, ce, hT, X', hL, e1, e2, hq, hce, hcv, vx_cls hW₁ hcl, st⟩
theorem vx_runS (S : CallFix p m c cc nL s args Ts own) (hM : vx_Met l y ws rm Pc Qc XC mc ms free) (cw : CallB R s args own index y bytes maxL ret ws rm mc ms n ∧ (Cond.static y).before args s = true) (hp : PreS s H Pc As)
    (hg : g.method = m) (hn : As.length = n) (hsize : g.locals.size = nL) (hstack : g.stack = As.reverse ++ rest) (hW : 2 * g.monitorRoom + (rest.map fun v => v.category).sum ≤ 8) (hdg : decode cc g.pc = .ok (.invokestatic index, 3)) (hf : cells + mc ≤ R.cells ∧ slots + ms ≤ R.slots) :
    vx_Run p l e R s m args below meth c H locs cells slots mc ms g rest (Qc As.toArray) XC free := by
  have hK : vx_Back l R p e below s args y 3 8 (PreOf R mc ms Pc) (PostOf Qc mc ms free) (vx_Post XC mc ms free) := vx_callBack cw.1 hM hp.1
  obtain ⟨⟨-, -, -, -, -, -, hcode, hini, hy, hlen, hl⟩, hstt⟩ := cw
  obtain ⟨hx, hb, hml, ho, -⟩ := S
  intro T hT X
  rcases vx_callS X hx (bytes := bytes) (maxL := maxL) (ret := ret) ho hl hstt hini hcode hy hK hg (hsize.trans hml.symm) (argsL := As) (rest := rest) (fun sig h => hn.trans (hlen sig h)) hstack hW (by rw [hb]; exact hdg)
    (fun vm₁ hW₁ => ⟨hf.1, hf.2, hp.2 (T.setVm vm₁) hT hW₁⟩) with ⟨v, vm₁, ⟨U', l2, c2, s2⟩, hW₁, X', ⟨g', mk, t, L, e1, e2, hq, h1, hL, h2, h3⟩, st⟩ | ⟨q, vm₁, ⟨U', l2, c2, s2⟩, hW₁, X', ⟨g', mk, t, L, E, ce, e1, e2, hq, hce, hcv, hcl, h1, hL, h2, h3⟩, st⟩
  · dsimp only [Pt.U, Pt.locs, Pt.cells, Pt.slots] at X' e1 e2 h1 h2 h3 st
    subst h1; subst h2; subst h3
    exact Or.inl ⟨v, (T.setVm vm₁).calling g' mk As.toArray, t, U', L, hT, X', hL, e1, e2, hq, st⟩
  · dsimp only [Pt.U, Pt.locs, Pt.cells, Pt.slots] at X' e1 e2 h1 h2 h3 st hcl
    subst h1; subst h2; subst h3
    exact Or.inr ⟨q, (T.setVm vm₁).calling g' mk As.toArray, t, U', L, E, ce, hT, X', hL, e1, e2, hq, hce, hcv, vx_cls hW₁ hcl, st⟩
end Runs
section Rows
variable {p : Program} {l : Launch} {e : Env} {R : Room} {s : State} {m : MethodId} {args : Array Value} {below : List Frame} {meth : Method} {c : Code} {H : Heap} {locs : List Loc} {cells slots : Nat} {Q : State → Prop}
variable {mc ms : Nat} {free : Addr → Prop} {A0 A1 : Nat → Prop} {H0 : Heap} {a : Array Value} {pc : Nat} {ls : Array Slot} {st0 rest : List Value}
theorem vx_keep {st₀ t T' : State} {L : List Loc} (h0 : st₀.heap = H) (e1 : T'.heap = t.heap) (hS : va_S A0 H0 H locs) (hA : ∀ q, q < H.size → A1 q → A0 q) (hf : ∀ q, free q → A0 q) (hL : ∀ q ∈ L, free q.base) (hF : va_F A1 st₀ t) :
    H.size ≤ T'.heap.size ∧ (∀ q : Nat, q < H.size → ¬ A1 q → T'.heap[q]? = H[q]?) ∧ va_S A0 H0 T'.heap (locs ++ L) := by
  obtain ⟨hz, hk⟩ := hF
  rw [h0] at hz hk
  exact ⟨by rw [e1]; exact hz, fun q h1 h2 => by rw [e1]; exact hk q h1 h2,
    ⟨Nat.le_trans hS.1 (by rw [e1]; exact hz), fun q h1 h2 => by rw [e1, hk q (Nat.lt_of_lt_of_le h1 hS.1) (fun z => h2 (hA q (Nat.lt_of_lt_of_le h1 hS.1) z))]; exact hS.2.1 q h1 h2, fun q hq => by
      rcases List.mem_append.mp hq with h | h
      · exact hS.2.2 q h
      · exact hf _ (hL q h)⟩⟩
theorem vx_calli {S SX : Type} {post : Int32 → S → Prop} {px : SX → Prop} {B : S → State → Prop} {BX : String → SX → State → Prop} {AX : Nat → Prop} (hr : vx_Run p l e R s m args below meth c H locs cells slots mc ms (F0 m pc ls st0) rest (va_Qi post B A1 a) (vx_X px BX AX) free) (hS : va_S A0 H0 H locs) (hA : ∀ q, q < H.size → A1 q → A0 q) (hf : ∀ q, free q → A0 q) (hAX : ∀ q, q < H.size → AX q → A0 q)
    (kx : ∀ (E : String) (ce : Cell) (q9 : Addr) (u : SX) (t : State) (H1 : Heap) (locs1 : List Loc), t.heap = H1 → s.vm.Alike t.vm → px u → BX E u t → H.size ≤ H1.size → (∀ q : Nat, q < H.size → ¬ AX q → H1[q]? = H[q]?) → va_S A0 H0 H1 locs1 → H1[q9]? = some ce → ce.vm = .none → s.vm.findClass E = some ce.cls → vx_W p l e R s m args below meth c H1 locs1 (cells + mc) (slots + ms) Q (F0 m pc ls rest) q9)
    (kk : ∀ (r : Int32) (u : S) (t : State) (H1 : Heap) (locs1 : List Loc), t.heap = H1 → s.vm.Alike t.vm → post r u → B u t → H.size ≤ H1.size → (∀ q : Nat, q < H.size → ¬ A1 q → H1[q]? = H[q]?) → va_S A0 H0 H1 locs1 → W p l e R s m args below meth c H1 locs1 (cells + mc) (slots + ms) Q (F0 m (pc + 3) ls (.int r :: rest))) : W p l e R s m args below meth c H locs cells slots Q (F0 m pc ls st0) := by
  intro T hT X
  rcases hr T hT X with ⟨v, st₀, t, T', L, h0, X', hL, e1, e2, ⟨⟨r, u, hv, hp, hb⟩, hF⟩, st⟩ | ⟨q, st₀, t, T', L, E, ce, h0, X', hL, e1, e2, ⟨u, hp, hb, hF⟩, hce, hcv, hcl, st⟩
  · cases hv
    obtain ⟨k1, k2, k3⟩ := vx_keep h0 e1 hS hA hf hL hF
    obtain ⟨t2, a1, b1⟩ := kk r u t T'.heap (locs ++ L) e1.symm (by rw [← e2]; exact X'.warmed.alike) hp hb k1 k2 k3 T' rfl X'
    exact ⟨t2, st t2 a1, b1⟩
  · obtain ⟨k1, k2, k3⟩ := vx_keep h0 e1 hS hAX hf hL hF
    obtain ⟨t2, a1, b1⟩ := kx E ce q u t T'.heap (locs ++ L) e1.symm (by rw [← e2]; exact X'.warmed.alike) hp hb k1 k2 k3 (by rw [e1]; exact hce) hcv hcl T' rfl X'
    exact ⟨t2, st.trans a1, b1⟩
theorem vx_calll {S SX : Type} {post : Int64 → S → Prop} {px : SX → Prop} {B : S → State → Prop} {BX : String → SX → State → Prop} {AX : Nat → Prop} (hr : vx_Run p l e R s m args below meth c H locs cells slots mc ms (F0 m pc ls st0) rest (va_Ql post B A1 a) (vx_X px BX AX) free) (hS : va_S A0 H0 H locs) (hA : ∀ q, q < H.size → A1 q → A0 q) (hf : ∀ q, free q → A0 q) (hAX : ∀ q, q < H.size → AX q → A0 q)
    (kx : ∀ (E : String) (ce : Cell) (q9 : Addr) (u : SX) (t : State) (H1 : Heap) (locs1 : List Loc), t.heap = H1 → s.vm.Alike t.vm → px u → BX E u t → H.size ≤ H1.size → (∀ q : Nat, q < H.size → ¬ AX q → H1[q]? = H[q]?) → va_S A0 H0 H1 locs1 → H1[q9]? = some ce → ce.vm = .none → s.vm.findClass E = some ce.cls → vx_W p l e R s m args below meth c H1 locs1 (cells + mc) (slots + ms) Q (F0 m pc ls rest) q9)
    (kk : ∀ (r : Int64) (u : S) (t : State) (H1 : Heap) (locs1 : List Loc), t.heap = H1 → s.vm.Alike t.vm → post r u → B u t → H.size ≤ H1.size → (∀ q : Nat, q < H.size → ¬ A1 q → H1[q]? = H[q]?) → va_S A0 H0 H1 locs1 → W p l e R s m args below meth c H1 locs1 (cells + mc) (slots + ms) Q (F0 m (pc + 3) ls (.long r :: rest))) : W p l e R s m args below meth c H locs cells slots Q (F0 m pc ls st0) := by
  intro T hT X
  rcases hr T hT X with ⟨v, st₀, t, T', L, h0, X', hL, e1, e2, ⟨⟨r, u, hv, hp, hb⟩, hF⟩, st⟩ | ⟨q, st₀, t, T', L, E, ce, h0, X', hL, e1, e2, ⟨u, hp, hb, hF⟩, hce, hcv, hcl, st⟩
  · cases hv
    obtain ⟨k1, k2, k3⟩ := vx_keep h0 e1 hS hA hf hL hF
    obtain ⟨t2, a1, b1⟩ := kk r u t T'.heap (locs ++ L) e1.symm (by rw [← e2]; exact X'.warmed.alike) hp hb k1 k2 k3 T' rfl X'
    exact ⟨t2, st t2 a1, b1⟩
  · obtain ⟨k1, k2, k3⟩ := vx_keep h0 e1 hS hAX hf hL hF
    obtain ⟨t2, a1, b1⟩ := kx E ce q u t T'.heap (locs ++ L) e1.symm (by rw [← e2]; exact X'.warmed.alike) hp hb k1 k2 k3 (by rw [e1]; exact hce) hcv hcl T' rfl X'
    exact ⟨t2, st.trans a1, b1⟩
theorem vx_callf {S SX : Type} {post : UInt32 → S → Prop} {px : SX → Prop} {B : S → State → Prop} {BX : String → SX → State → Prop} {AX : Nat → Prop} (hr : vx_Run p l e R s m args below meth c H locs cells slots mc ms (F0 m pc ls st0) rest (va_Qf post B A1 a) (vx_X px BX AX) free) (hS : va_S A0 H0 H locs) (hA : ∀ q, q < H.size → A1 q → A0 q) (hf : ∀ q, free q → A0 q) (hAX : ∀ q, q < H.size → AX q → A0 q)
    (kx : ∀ (E : String) (ce : Cell) (q9 : Addr) (u : SX) (t : State) (H1 : Heap) (locs1 : List Loc), t.heap = H1 → s.vm.Alike t.vm → px u → BX E u t → H.size ≤ H1.size → (∀ q : Nat, q < H.size → ¬ AX q → H1[q]? = H[q]?) → va_S A0 H0 H1 locs1 → H1[q9]? = some ce → ce.vm = .none → s.vm.findClass E = some ce.cls → vx_W p l e R s m args below meth c H1 locs1 (cells + mc) (slots + ms) Q (F0 m pc ls rest) q9)
    (kk : ∀ (r : UInt32) (u : S) (t : State) (H1 : Heap) (locs1 : List Loc), t.heap = H1 → s.vm.Alike t.vm → post r u → B u t → H.size ≤ H1.size → (∀ q : Nat, q < H.size → ¬ A1 q → H1[q]? = H[q]?) → va_S A0 H0 H1 locs1 → W p l e R s m args below meth c H1 locs1 (cells + mc) (slots + ms) Q (F0 m (pc + 3) ls (.float r :: rest))) : W p l e R s m args below meth c H locs cells slots Q (F0 m pc ls st0) := by
  intro T hT X
  rcases hr T hT X with ⟨v, st₀, t, T', L, h0, X', hL, e1, e2, ⟨⟨r, u, hv, hp, hb⟩, hF⟩, st⟩ | ⟨q, st₀, t, T', L, E, ce, h0, X', hL, e1, e2, ⟨u, hp, hb, hF⟩, hce, hcv, hcl, st⟩
  · cases hv
    obtain ⟨k1, k2, k3⟩ := vx_keep h0 e1 hS hA hf hL hF
    obtain ⟨t2, a1, b1⟩ := kk r u t T'.heap (locs ++ L) e1.symm (by rw [← e2]; exact X'.warmed.alike) hp hb k1 k2 k3 T' rfl X'
    exact ⟨t2, st t2 a1, b1⟩
  · obtain ⟨k1, k2, k3⟩ := vx_keep h0 e1 hS hAX hf hL hF
    obtain ⟨t2, a1, b1⟩ := kx E ce q u t T'.heap (locs ++ L) e1.symm (by rw [← e2]; exact X'.warmed.alike) hp hb k1 k2 k3 (by rw [e1]; exact hce) hcv hcl T' rfl X'
    exact ⟨t2, st.trans a1, b1⟩
theorem vx_calld {S SX : Type} {post : UInt64 → S → Prop} {px : SX → Prop} {B : S → State → Prop} {BX : String → SX → State → Prop} {AX : Nat → Prop} (hr : vx_Run p l e R s m args below meth c H locs cells slots mc ms (F0 m pc ls st0) rest (va_Qd post B A1 a) (vx_X px BX AX) free) (hS : va_S A0 H0 H locs) (hA : ∀ q, q < H.size → A1 q → A0 q) (hf : ∀ q, free q → A0 q) (hAX : ∀ q, q < H.size → AX q → A0 q)
    (kx : ∀ (E : String) (ce : Cell) (q9 : Addr) (u : SX) (t : State) (H1 : Heap) (locs1 : List Loc), t.heap = H1 → s.vm.Alike t.vm → px u → BX E u t → H.size ≤ H1.size → (∀ q : Nat, q < H.size → ¬ AX q → H1[q]? = H[q]?) → va_S A0 H0 H1 locs1 → H1[q9]? = some ce → ce.vm = .none → s.vm.findClass E = some ce.cls → vx_W p l e R s m args below meth c H1 locs1 (cells + mc) (slots + ms) Q (F0 m pc ls rest) q9)
    (kk : ∀ (r : UInt64) (u : S) (t : State) (H1 : Heap) (locs1 : List Loc), t.heap = H1 → s.vm.Alike t.vm → post r u → B u t → H.size ≤ H1.size → (∀ q : Nat, q < H.size → ¬ A1 q → H1[q]? = H[q]?) → va_S A0 H0 H1 locs1 → W p l e R s m args below meth c H1 locs1 (cells + mc) (slots + ms) Q (F0 m (pc + 3) ls (.double r :: rest))) : W p l e R s m args below meth c H locs cells slots Q (F0 m pc ls st0) := by
  intro T hT X
  rcases hr T hT X with ⟨v, st₀, t, T', L, h0, X', hL, e1, e2, ⟨⟨r, u, hv, hp, hb⟩, hF⟩, st⟩ | ⟨q, st₀, t, T', L, E, ce, h0, X', hL, e1, e2, ⟨u, hp, hb, hF⟩, hce, hcv, hcl, st⟩
  · cases hv
    obtain ⟨k1, k2, k3⟩ := vx_keep h0 e1 hS hA hf hL hF
    obtain ⟨t2, a1, b1⟩ := kk r u t T'.heap (locs ++ L) e1.symm (by rw [← e2]; exact X'.warmed.alike) hp hb k1 k2 k3 T' rfl X'
    exact ⟨t2, st t2 a1, b1⟩
  · obtain ⟨k1, k2, k3⟩ := vx_keep h0 e1 hS hAX hf hL hF
    obtain ⟨t2, a1, b1⟩ := kx E ce q u t T'.heap (locs ++ L) e1.symm (by rw [← e2]; exact X'.warmed.alike) hp hb k1 k2 k3 (by rw [e1]; exact hce) hcv hcl T' rfl X'
    exact ⟨t2, st.trans a1, b1⟩
theorem vx_callv {S SX : Type} {post : S → Prop} {px : SX → Prop} {B : S → State → Prop} {BX : String → SX → State → Prop} {AX : Nat → Prop} (hr : vx_Run p l e R s m args below meth c H locs cells slots mc ms (F0 m pc ls st0) rest (va_Qv post B A1 a) (vx_X px BX AX) free) (hS : va_S A0 H0 H locs) (hA : ∀ q, q < H.size → A1 q → A0 q) (hf : ∀ q, free q → A0 q) (hAX : ∀ q, q < H.size → AX q → A0 q)
    (kx : ∀ (E : String) (ce : Cell) (q9 : Addr) (u : SX) (t : State) (H1 : Heap) (locs1 : List Loc), t.heap = H1 → s.vm.Alike t.vm → px u → BX E u t → H.size ≤ H1.size → (∀ q : Nat, q < H.size → ¬ AX q → H1[q]? = H[q]?) → va_S A0 H0 H1 locs1 → H1[q9]? = some ce → ce.vm = .none → s.vm.findClass E = some ce.cls → vx_W p l e R s m args below meth c H1 locs1 (cells + mc) (slots + ms) Q (F0 m pc ls rest) q9)
    (kk : ∀ (u : S) (t : State) (H1 : Heap) (locs1 : List Loc), t.heap = H1 → s.vm.Alike t.vm → post u → B u t → H.size ≤ H1.size → (∀ q : Nat, q < H.size → ¬ A1 q → H1[q]? = H[q]?) → va_S A0 H0 H1 locs1 → W p l e R s m args below meth c H1 locs1 (cells + mc) (slots + ms) Q (F0 m (pc + 3) ls (rest))) : W p l e R s m args below meth c H locs cells slots Q (F0 m pc ls st0) := by
  intro T hT X
  rcases hr T hT X with ⟨v, st₀, t, T', L, h0, X', hL, e1, e2, ⟨⟨u, hv, hp, hb⟩, hF⟩, st⟩ | ⟨q, st₀, t, T', L, E, ce, h0, X', hL, e1, e2, ⟨u, hp, hb, hF⟩, hce, hcv, hcl, st⟩
  · cases hv
    obtain ⟨k1, k2, k3⟩ := vx_keep h0 e1 hS hA hf hL hF
    obtain ⟨t2, a1, b1⟩ := kk u t T'.heap (locs ++ L) e1.symm (by rw [← e2]; exact X'.warmed.alike) hp hb k1 k2 k3 T' rfl X'
    exact ⟨t2, st t2 a1, b1⟩
  · obtain ⟨k1, k2, k3⟩ := vx_keep h0 e1 hS hAX hf hL hF
    obtain ⟨t2, a1, b1⟩ := kx E ce q u t T'.heap (locs ++ L) e1.symm (by rw [← e2]; exact X'.warmed.alike) hp hb k1 k2 k3 (by rw [e1]; exact hce) hcv hcl T' rfl X'
    exact ⟨t2, st.trans a1, b1⟩
/-- caught by the row x of this method's table; the rows ahead don't take it -/
theorem vx_catch {own name : String} {E : String} {ce : Cell} {q : Addr} (hown : s.vm.findClass own = some m.cls) (pre : List ExceptionTableEntry) (x : ExceptionTableEntry) (suf : List ExceptionTableEntry) (hsplit : c.exceptionTable.toList = pre ++ x :: suf)
    (hpass : ∀ z ∈ pre, covers z pc = false ∨ (z.catchType ≠ 0 ∧ ∃ nm : String, (Cond.classLink own z.catchType nm).before args s = true ∧ va_Nc E nm s)) (hx : covers x pc = true) (h0 : x.catchType ≠ 0)
    (hlink : (Cond.classLink own x.catchType name).before args s = true) (hcast : (Cond.castable E name).before args s = true) (hcell : H[q]? = some ce) (hv : ce.vm = .none) (hcl : s.vm.findClass E = some ce.cls)
    (kk : W p l e R s m args below meth c H locs cells slots Q (F0 m x.handlerPc ls [.ref q])) : vx_W p l e R s m args below meth c H locs cells slots Q (F0 m pc ls rest) q := by
  intro T hT X
  have hpl : e.platform.magicAccessors = ({} : Platform).magicAccessors := by rw [X.admits.platform]
  obtain ⟨c3, c4, hc3, hc4, hasg⟩ := Cond.castable_spec hcast
  cases Option.some.inj (hc3.symm.trans hcl)
  obtain ⟨c5, hc5, hcl5⟩ := Cond.classLink_spec hown hlink e.platform hpl
  cases Option.some.inj (hc4.symm.trans hc5)
  obtain ⟨vm', X', st⟩ := X.thenCaughtThrough q (g := F0 m pc ls rest) rfl (Steps.refl _) (by rw [hT]; exact hcell) (by rw [hv]; rfl) (by obtain ⟨k9, h9, -⟩ := Vm.findClass_spec hcl; exact ⟨k9, h9⟩) pre x suf hsplit
    (fun z hz => by
      rcases hpass z hz with h | ⟨hz0, nm, hl1, hn1⟩
      · exact Or.inl h
      · obtain ⟨c6, hc6, hcl6⟩ := Cond.classLink_spec hown hl1 e.platform hpl
        obtain ⟨a8, b8, h1, h2, h3⟩ := hn1
        cases Option.some.inj (h1.symm.trans hcl)
        cases Option.some.inj (h2.symm.trans hc6)
        exact Or.inr ⟨hz0, _, hcl6, h3⟩) hx (Or.inr ⟨h0, c4, hcl5, hasg⟩)
  obtain ⟨t, a1, b1⟩ := kk (T.setVm vm') hT X'
  exact ⟨t, st.trans a1, b1⟩
end Rows
section Ends
variable {p : Program} {l : Launch} {e : Env} {R : Room} {s : State} {m : MethodId} {args : Array Value} {below : List Frame} {meth : Method} {c : Code} {H : Heap} {locs : List Loc} {cells slots : Nat} {Q : State → Prop}
variable {mc ms : Nat} {free : Addr → Prop} {A0 A1 : Nat → Prop} {H0 : Heap} {a : Array Value} {ls : Array Slot} {st0 rest : List Value}
variable {Qc : Array Value → State → Outcome → State → Prop} {XC : String → State → State → Prop}
/-- what a body that may throw owes at its end -/
def vx_MQ (below : List Frame) (Qc : Array Value → State → Outcome → State → Prop) (XC : String → State → State → Prop) (a : Array Value) (s : State) (mc ms : Nat) (free : Addr → Prop) : State → Prop := fun t =>
  ∃ o, t.status = .running ∧ Ended t below o ∧ vx_Q Qc XC mc ms free a s o t
theorem vx_ret {g : JFrame} {mc ms : Nat} (k : W p l e R s m args below meth c H locs cells slots (MQ below Qc args s mc ms free) g) : W p l e R s m args below meth c H locs cells slots (vx_MQ below Qc XC args s mc ms free) g := by
  intro T hT X
  obtain ⟨t, a1, o, b1, b2, b3, b4⟩ := k T hT X
  exact ⟨t, a1, o, b1, b2, Or.inl ⟨b3, b4⟩⟩
/-- not caught here: it goes on to the caller -/
theorem vx_widen {g : JFrame} {q : Addr} {k n : Nat} (h1 : cells ≤ k) (h2 : slots ≤ n) (kk : vx_W p l e R s m args below meth c H locs k n Q g q) : vx_W p l e R s m args below meth c H locs cells slots Q g q := fun T hT X => kk T hT (stand_widen X h1 h2)
theorem vx_out {pc : Nat} {E : String} {ce : Cell} {q : Addr} {mc ms : Nat} (hout : ∀ x ∈ c.exceptionTable.toList, covers x pc = false) (hlocks : meth.locks = false) (hcell : H[q]? = some ce) (hv : ce.vm = .none) (hcl : s.vm.findClass E = some ce.cls)
    (hx : ∀ t : State, t.heap = H → s.vm.Alike t.vm → XC E s t) (hf : ∀ z ∈ locs, free z.base) (hc : cells ≤ mc) (hs : slots ≤ ms) :
    vx_W p l e R s m args below meth c H locs cells slots (vx_MQ below Qc XC args s mc ms free) (F0 m pc ls rest) q := by
  intro T hT X
  obtain ⟨st1, hrun, hend, hW, hsm⟩ := X.leaveThrown q (g := F0 m pc ls rest) rfl rfl rfl hout hlocks
  have hcell9 : (T.setFrames (.throwing q :: below)).heap[q]? = some ce := by
    show T.heap[q]? = some ce
    rw [hT]; exact hcell
  exact ⟨_, st1, .threw q, hrun, hend, Or.inr ⟨q, rfl, E, ce, locs, hx _ hT hW.alike, hcell9, hv, hcl, hW, hsm.mono hc hs, hf⟩⟩
theorem vx_frame {U : State} {k n : Nat} (h : s.sameButNew ({ U with vm := s.vm } : State) locs k n) : s.heap.size ≤ U.heap.size ∧ ∀ q : Nat, q < s.heap.size → (∀ z ∈ locs, z.base ≠ q) → U.heap[q]? = s.heap[q]? := by
  obtain ⟨-, h2, -, -, -, h6⟩ := h
  refine ⟨h2, fun q hq hz => ?_⟩
  obtain ⟨c9, e1, e2, e3, e4⟩ := h6 q _ (Array.getElem?_eq_getElem hq)
  have hs : c9.slots = (s.heap[q]).slots := Array.ext_getElem? fun i => e4 i fun hm => hz _ hm rfl
  have h9 : c9 = s.heap[q] := by
    rw [hs] at e2
    exact e2
  have e5 : U.heap[q]? = some c9 := e1
  rw [e5, h9, Array.getElem?_eq_getElem hq]
/-- the words of a throw but the four that speak of the heap -/
def vx_no (w : Cond) : Bool := decide (w ≠ .isRef (.static Bundle.tN "UNASSIGNED_STACK" Bundle.steD)) && decide (w ≠ .isRef (.static Bundle.tN "SUPPRESSED_SENTINEL" Bundle.listD)) && decide (w ≠ .laysStatic Bundle.tN "UNASSIGNED_STACK" Bundle.steD) && decide (w ≠ .laysStatic Bundle.tN "SUPPRESSED_SENTINEL" Bundle.listD)
def vx_at0 (own : String) (ic : Nat) (X : String) (names : List String) : List Cond := (Bundle.ownAtoms0 own ic X names).filter vx_no
def vx_atS (own : String) (ic : Nat) (X : String) (names : List String) : List Cond := (Bundle.ownAtoms own ic X names).filter vx_no
/-- a word that the tables alone decide, or a good one -/
def vx_ot (w : Cond) : Bool := w.onTables || goodWord w
theorem vx_ot_at {args a' : Array Value} {s U : State} {w : Cond} (hW : s.WarmedH U.vm) (hvm : s.vm = U.vm) (hg : vx_ot w = true) (h : w.before args s = true) : w.before a' U = true := by
  simp only [vx_ot, Bool.or_eq_true] at hg
  rcases hg with hg | hg
  · exact va_tabs hg hvm h
  · exact word_at hW (good_of_word hg) h
/-- a list's words: the good ones out of the method's own list, the others by premises of their own -/
theorem vx_hat {args : Array Value} {s : State} {L B : List Cond} (h1 : ∀ w ∈ L.filter goodWord, w.before args s = true) (h2 : ∀ w ∈ L.filter (fun w => !goodWord w), w ∈ B) (h3 : ∀ w ∈ B, w.before args s = true) : ∀ w ∈ L, w.before args s = true := by
  intro w hw
  by_cases g : goodWord w = true
  · exact h1 w (List.mem_filter.mpr ⟨hw, g⟩)
  · refine h3 w (h2 w (List.mem_filter.mpr ⟨hw, ?_⟩))
    show (!goodWord w) = true
    cases hgw : goodWord w
    · rfl
    · exact absurd hgw g
theorem vx_c {args : Array Value} {s : State} {w : Cond} {B : List Cond} (h : w.before args s = true) (t : ∀ w ∈ B, w.before args s = true) : ∀ w' ∈ w :: B, w'.before args s = true := fun w' h' => (List.mem_cons.mp h').elim (fun e => by rw [e]; exact h) (t w')
theorem vx_n {args : Array Value} {s : State} : ∀ w ∈ ([] : List Cond), w.before args s = true := fun _ h => nomatch h
theorem vx_own {args : Array Value} {s : State} {L : List Cond} (h1 : ∀ w ∈ L.filter vx_no, w.before args s = true)
    (hU : (Cond.isRef (.static Bundle.tN "UNASSIGNED_STACK" Bundle.steD)).before args s = true) (hN : (Cond.isRef (.static Bundle.tN "SUPPRESSED_SENTINEL" Bundle.listD)).before args s = true)
    (lU : (Cond.laysStatic Bundle.tN "UNASSIGNED_STACK" Bundle.steD).before args s = true) (lN : (Cond.laysStatic Bundle.tN "SUPPRESSED_SENTINEL" Bundle.listD).before args s = true) : ∀ w ∈ L, w.before args s = true := by
  intro w hw
  by_cases e1 : w = .isRef (.static Bundle.tN "UNASSIGNED_STACK" Bundle.steD)
  · rw [e1]; exact hU
  · by_cases e2 : w = .isRef (.static Bundle.tN "SUPPRESSED_SENTINEL" Bundle.listD)
    · rw [e2]; exact hN
    · by_cases e3 : w = .laysStatic Bundle.tN "UNASSIGNED_STACK" Bundle.steD
      · rw [e3]; exact lU
      · by_cases e4 : w = .laysStatic Bundle.tN "SUPPRESSED_SENTINEL" Bundle.listD
        · rw [e4]; exact lN
        · exact h1 w (List.mem_filter.mpr ⟨hw, by unfold vx_no; rw [decide_eq_true e1, decide_eq_true e2, decide_eq_true e3, decide_eq_true e4]; rfl⟩)
/-- where a static field lies, its class's statics cell in H -/
def vx_L (C n d : String) (A : Nat → Prop) (U : State) (H : Heap) : Prop := ∃ (c : ClassId) (k : Class) (i : Nat) (f : Field) (a : Nat) (cell : Cell), U.vm.findClass C = some c ∧ U.fieldFound? C n d = some (c, k, i, f) ∧ f.isStatic = true ∧ k.statics = some a ∧ H[a]? = some cell ∧ cell.vm.isStatics = true ∧ cell.cls = c ∧ f.slot < cell.slots.size ∧ k.staticTypes[f.slot]? = some f.type ∧ ¬ A a
theorem vx_L.moved {C n d : String} {A : Nat → Prop} {u U : State} {H : Heap} (hvm : u.vm.Alike U.vm) (h : vx_L C n d A u H) : vx_L C n d A U H := by
  obtain ⟨c, k, i, f, a, cell, h1, h2, h3, h4, h5, h6, h7, h8, h9, h10⟩ := h
  obtain ⟨k', hi', he⟩ := State.fieldFound?_setVm hvm h2
  exact ⟨c, k', i, f, a, cell, by rw [hvm.findClass]; exact h1, hi', h3, by rw [he]; exact h4, h5, h6, h7, h8, by rw [he]; exact h9, h10⟩
theorem vx_L.kept {C n d : String} {A : Nat → Prop} {U : State} {H H1 : Heap} (h : vx_L C n d A U H) (hq : ∀ a : Nat, a < H.size → ¬ A a → H1[a]? = H[a]?) : vx_L C n d A U H1 := by
  obtain ⟨c, k, i, f, a, cell, h1, h2, h3, h4, h5, h6, h7, h8, h9, h10⟩ := h
  exact ⟨c, k, i, f, a, cell, h1, h2, h3, h4, by rw [hq a (Array.getElem?_eq_some_iff.mp h5).1 h10]; exact h5, h6, h7, h8, h9, h10⟩
theorem vx_L.narrow {C n d : String} {A B : Nat → Prop} {U : State} {H : Heap} (h : vx_L C n d A U H) (hAB : ∀ q, B q → A q) : vx_L C n d B U H := by
  obtain ⟨c, k, i, f, a, cell, h1, h2, h3, h4, h5, h6, h7, h8, h9, h10⟩ := h
  exact ⟨c, k, i, f, a, cell, h1, h2, h3, h4, h5, h6, h7, h8, h9, fun z => h10 (hAB _ z)⟩
theorem vx_L.word {C n d : String} {A : Nat → Prop} {s : State} {args : Array Value} (h : vx_L C n d A s s.heap) : (Cond.laysStatic C n d).before args s = true := by
  obtain ⟨c, k, i, f, a, cell, h1, h2, h3, h4, h5, h6, h7, h8, h9, -⟩ := h
  show (Cond.laysStatic C n d).holds args s none s [] = true
  exact Cond.laysStatic_of h1 h2 h3 h4 h5 h6 h7 h8 h9
/-- .. and what it holds: null or some reference -/
def vx_Zq (C n d : String) (A : Nat → Prop) (U : State) (H : Heap) : Prop := va_Zq C n d A U H ∧ vx_L C n d A U H
theorem vx_Zq.moved {C n d : String} {A : Nat → Prop} {u U : State} {H : Heap} (hvm : u.vm.Alike U.vm) (h : vx_Zq C n d A u H) : vx_Zq C n d A U H := ⟨va_Zq.moved hvm h.1, vx_L.moved hvm h.2⟩
theorem vx_Zq.kept {C n d : String} {A : Nat → Prop} {U : State} {H H1 : Heap} (h : vx_Zq C n d A U H) (hq : ∀ a : Nat, a < H.size → ¬ A a → H1[a]? = H[a]?) : vx_Zq C n d A U H1 := ⟨va_Zq.kept h.1 hq, vx_L.kept h.2 hq⟩
theorem vx_Zq.narrow {C n d : String} {A B : Nat → Prop} {U : State} {H : Heap} (h : vx_Zq C n d A U H) (hAB : ∀ q, B q → A q) : vx_Zq C n d B U H := ⟨va_Zq.narrow h.1 hAB, vx_L.narrow h.2 hAB⟩
theorem vx_Zqof {args : Array Value} {s : State} {C n d : String} {A : Nat → Prop} (hl : (Cond.laysStatic C n d).before args s = true) (hini : (Cond.initialized C).before args s = true) (h : (Cond.isRef (.static C n d)).before args s = true) (hA : ∀ a : Nat, a < s.heap.size → ¬ A a) : vx_Zq C n d A s s.heap := by
  refine ⟨va_Zqof hl hini h hA, ?_⟩
  obtain ⟨c, k, i, f, a, cell, h1, h2, h3, h4, h5, h6, h7, h8, h9⟩ := Cond.laysStatic_spec hl
  exact ⟨c, k, i, f, a, cell, h1, h2, h3, h4, h5, h6, h7, h8, h9, hA a (Array.getElem?_eq_some_iff.mp h5).1⟩
theorem vx_isRef {C n d : String} {v : Value} {A : Nat → Prop} {s : State} {args : Array Value} (h : va_Z C n d v A s s.heap) (hv : v.isRef = true) : (Cond.isRef (.static C n d)).before args s = true := by
  obtain ⟨cf, kf, fi, f, a, cell, h1, h2, h3, h4, h5, h6, h7, -⟩ := h
  have he : (Term.static C n d).eval args s none [] s = some v := by
    simp [Term.eval, State.fieldNamed?, h1, h2, h4, h5, h6, h7]
  simp only [Cond.before, Cond.holds, Cond.value, he]
  cases v <;> simp_all [Value.isRef]
theorem vx_isRefq {C n d : String} {A : Nat → Prop} {s : State} {args : Array Value} (h : va_Zq C n d A s s.heap) : (Cond.isRef (.static C n d)).before args s = true := by
  rcases h with h | ⟨t, h⟩
  · exact vx_isRef h rfl
  · exact vx_isRef h rfl
/-- the same frame, seen from here: as if the method were called anew in this heap -/
theorem vx_rebase {T : State} (X : Stand p l e R s m args below meth c T locs cells slots) {R' : Room} (hf : R'.frames ≤ R.frames) (hl : R'.locals ≤ R.locals) (hc : cells + R'.cells ≤ R.cells) (hs : slots + R'.slots ≤ R.slots) :
    Stand p l e R' ((T.setVm s.vm).setFrames (.invoking m args :: below)) m args below meth c T [] 0 0 := by
  have htop : (T.setVm s.vm).topJava?.isSome := X.here.top
  have hF : ((T.setVm s.vm).setFrames (.invoking m args :: below)).frames = .invoking m args :: below := State.frames_setFrames _ (State.cur_lt_of_top htop)
  obtain ⟨g₀, hg0⟩ := Option.isSome_iff_exists.mp htop
  obtain ⟨r, hr⟩ := State.topJava?_eq_some.mp hg0
  have hl9 : e.platform.stackLimits (T.setVm s.vm).me = e.platform.stackLimits s.me := X.limits
  have hb9 : (T.setVm s.vm).me.stackBytes = s.me.stackBytes := X.bytes
  refine ⟨X.admits, X.cas, X.clock, hF, ?_, X.hears, X.method, X.code, X.here, X.tail, X.warmed, ?_, ?_, ?_⟩
  · have h := X.room
    have hU : ((T.setVm s.vm).setFrames (.invoking m args :: below)).localsInUse = s.localsInUse := by
      rw [State.localsInUse_invoking hF (meth := meth) (c := c) X.method X.code, State.localsInUse_invoking X.frames X.method X.code]
    simp only [State.hasRoom, Bool.and_eq_true, decide_eq_true_eq] at h ⊢
    obtain ⟨⟨⟨⟨h1, h2, h3, h4, h5, h6⟩, h7⟩, h8⟩, h9⟩ := h
    rw [X.frames, List.length_cons] at h2 h3
    have q1 := X.heapSize
    have q2 := X.used
    simp only [hF, hU, List.length_cons, State.stackLimits_setFrames, State.stackBytes_setFrames, hl9, hb9]
    refine ⟨⟨⟨⟨by omega, by omega, by omega, by omega, by omega, h6⟩, ?_⟩, ?_⟩, X.book⟩
    · show T.heap.size + R'.cells ≤ e.platform.maxCells
      omega
    · show T.slotsUsed + R'.slots ≤ e.platform.maxSlots
      omega
  · rw [State.stackLimits_setFrames]; rfl
  · rw [State.stackBytes_setFrames]; rfl
  · refine ⟨?_, Nat.le_refl _, Nat.le_refl _, ?_, ?_, fun a c9 h9 => ⟨c9, h9, rfl, rfl, fun _ _ => rfl⟩⟩
    · obtain ⟨t, ht, -⟩ := State.frames_cons hr
      show T.setVm s.vm = { ((T.setVm s.vm).setFrames (.invoking m args :: below)).setFrames (T.setVm s.vm).frames with heap := T.heap, slotsUsed := T.slotsUsed }
      rw [State.setFrames_setFrames, State.setFrames_self ht]
      rfl
    · show T.slotsUsed = T.slotsUsed + ((T.heap.toList.drop T.heap.size).map (·.slots.size)).sum
      rw [List.drop_eq_nil_of_le (Nat.le_of_eq Array.length_toList)]
      rfl
    · show ((T.heap.toList.drop T.heap.size).map (·.slots.size)).sum ≤ 0
      rw [List.drop_eq_nil_of_le (Nat.le_of_eq Array.length_toList)]
      exact Nat.le_refl _
/-- 'throw new E()': new; dup; invokespecial; athrow -/
theorem vx_throw0 {cc : ByteArray} {pc : Nat} (hexec : p.tables.exec = Jvm.exec) (hb : c.code = cc) (hl : l.stackTraces = false) {own cls : String} {names : List String} {ik ic mc ms : Nat} {A : Nat → Prop}
    (hown : s.vm.findClass own = some m.cls) (hcls : Bundle.fit cls = true) (hnames : ∀ n ∈ names, Bundle.fit n = true)
    (hk : (Cond.classLink own ik cls).before args s = true) (hini : (Cond.initialized cls).before args s = true) (hat : ∀ w ∈ vx_at0 own ic cls names, w.before args s = true)
    (hgood : ∀ w ∈ Cond.classLink own ik cls :: Cond.initialized cls :: vx_at0 own ic cls names, vx_ot w = true)
    (hU : vx_Zq Bundle.tN "UNASSIGNED_STACK" Bundle.steD A s s.heap) (hN : vx_Zq Bundle.tN "SUPPRESSED_SENTINEL" Bundle.listD A s s.heap) (hS : va_S A s.heap H locs) (hsize : ls.size = c.maxLocals)
    (d0 : decode cc pc = .ok (.new ik, 3)) (d3 : decode cc (pc + 3) = .ok (.dup, 1)) (d4 : decode cc (pc + 4) = .ok (.invokespecial ic, 3)) (d7 : decode cc (pc + 7) = .ok (.athrow, 1))
    (hout : ∀ x ∈ c.exceptionTable.toList, covers x (pc + 7) = false)
    (hRframes : names.length + 3 < R.frames) (hRlocals : (rest.map fun v => v.category).sum + (13 * (names.length + 1) + 42) ≤ R.locals) (hRcells : cells + 1 ≤ R.cells) (hRslots : slots + 6 ≤ R.slots) (hlocks : meth.locks = false)
    (hx : ∀ t : State, s.vm.Alike t.vm → H.size ≤ t.heap.size → (∀ q : Nat, q < H.size → t.heap[q]? = H[q]?) → XC cls s t)
    (hf : ∀ z ∈ locs, free z.base) (hc : cells + 1 ≤ mc) (hs : slots + 6 ≤ ms) :
    W p l e R s m args below meth c H locs cells slots (vx_MQ below Qc XC args s mc ms free) (F0 m pc ls rest) := by
  intro T hT X
  have htr : e.platform.stackTraces = false := (show e.platform.stackTraces = l.stackTraces by rw [X.admits.platform]).trans hl
  have Y := vx_rebase X (R' := { frames := R.frames, locals := R.locals, cells := 1, slots := 6 }) (Nat.le_refl _) (Nat.le_refl _) hRcells hRslots
  obtain ⟨s', hA⟩ : ∃ z, z = (T.setVm s.vm).setFrames (.invoking m args :: below) := ⟨_, rfl⟩
  rw [← hA] at Y
  have hvm : s'.vm = s.vm := by rw [hA]; rfl
  have hhp : s'.heap = H := by rw [hA]; exact hT
  have hW0 : s.WarmedH s'.vm := by rw [hvm]; exact State.WarmedH.refl s
  have hat' : ∀ w ∈ vx_at0 own ic cls names, w.before args s' = true := fun w hw => vx_ot_at hW0 hvm.symm (hgood w (List.mem_cons_of_mem _ (List.mem_cons_of_mem _ hw))) (hat w hw)
  have hk' : (Cond.classLink own ik cls).before args s' = true := vx_ot_at hW0 hvm.symm (hgood _ List.mem_cons_self) hk
  have hini' : (Cond.initialized cls).before args s' = true := vx_ot_at hW0 hvm.symm (hgood _ (List.mem_cons_of_mem _ List.mem_cons_self)) hini
  have hU' : vx_Zq Bundle.tN "UNASSIGNED_STACK" Bundle.steD A s' s'.heap := by rw [hhp]; exact vx_Zq.moved hW0.alike (hU.kept hS.2.1)
  have hN' : vx_Zq Bundle.tN "SUPPRESSED_SENTINEL" Bundle.listD A s' s'.heap := by rw [hhp]; exact vx_Zq.moved hW0.alike (hN.kept hS.2.1)
  have h : ∀ w ∈ Bundle.ownAtoms0 own ic cls names, w.before args s' = true := vx_own hat' (vx_isRefq hU'.1) (vx_isRefq hN'.1) hU'.2.word hN'.2.word
  have hown' : s'.vm.findClass own = some m.cls := by rw [hvm]; exact hown
  have hins : (Cond.instantiable cls 6).before args s' = true := h _ (by simp [Bundle.ownAtoms0])
  obtain ⟨vm₁, cX, kX, hfX, hkX, -, -, X₁, st1⟩ := Y.newCold hexec (own := own) (C := cls) (index := ik) (n := 6) hown' hk' hins hini'
    (g := F0 m pc ls rest) rfl (by rw [hb]; exact d0) (Nat.le_refl _) (Nat.le_refl _)
  generalize hT1 : (T.setVm vm₁).pushCell { cls := cX, slots := kX.instanceTypes.map defaultValue, vm := .none } = T1 at X₁ st1
  have hcat : (Value.ref T.heap.size).category = 1 := rfl
  have hcellA : T1.heap[T.heap.size]? = some (freshCell cX kX) := by rw [← hT1]; exact State.heap_pushCell_size _ _
  have d3' : decode c.code (pc + 3) = .ok (.dup, 1) := by rw [hb]; exact d3
  obtain ⟨U, hsteps, hrun, hend, hW, hsame, ce, hce, hO⟩ := X₁.ctorThrow0 hexec htr (own := own) (cls := cls) (names := names) (ic := ic) hown' hcls hnames h (fun x hx => nomatch hx) hfX hkX hcellA (by rw [hhp, hT]; exact Nat.le_refl _)
    (g := { method := m, pc := pc + 4, locals := ls, stack := .ref T.heap.size :: .ref T.heap.size :: rest, locked := none }) rfl hsize rfl rfl (rest := rest) rfl
    (by rw [hb]; exact d4) (by rw [hb]; exact d7) hout hRframes (by simp only [List.map_cons, List.sum_cons, hcat]; omega) hlocks
  obtain ⟨f1, f2⟩ := vx_frame hsame
  rw [hhp] at f1 f2
  have hWs : s.WarmedH U.vm := State.WarmedH.trans hW0 hW
  have hcl : s.vm.findClass cls = some ce.cls := by
    have h9 := hO.cls
    rw [hvm] at h9
    exact h9
  have hall : s.sameButNew ({ U with vm := s.vm } : State) locs mc ms := by
    subst hA
    obtain ⟨e1, e2⟩ := hsame
    rw [State.setFrames_setFrames] at e1
    have h2 : (T.setVm s.vm).sameButNew ({ U with vm := s.vm } : State) [] (0 + 1) (0 + 6) := ⟨e1, e2⟩
    have h3 := X.same.trans h2
    rw [List.append_nil] at h3
    exact h3.mono hc hs
  refine ⟨U, ?_, .threw T.heap.size, hrun, hend, Or.inr ⟨T.heap.size, rfl, cls, ce, locs, hx U hWs.alike f1 (fun q hq => f2 q hq (fun z hz => nomatch hz)), hce, hO.vm, hcl, hWs, hall, hf⟩⟩
  refine st1 _ ?_
  show Steps p.tables e below (T1.setTop { method := m, pc := pc + 3, locals := ls, stack := .ref T.heap.size :: rest, locked := none }) _
  jvm_step X₁.here [X₁.here.top, hexec, d3', Value.category]
  exact hsteps
/-- 'throw new E("text")': new; dup; ldc; invokespecial; athrow -/
theorem vx_throwS {cc : ByteArray} {pc : Nat} (hexec : p.tables.exec = Jvm.exec) (hb : c.code = cc) (hl : l.stackTraces = false) {own cls text : String} {names : List String} {ik is ic mc ms sa : Nat} {A : Nat → Prop}
    (hown : s.vm.findClass own = some m.cls) (hcls : Bundle.fit cls = true) (hnames : ∀ n ∈ names, Bundle.fit n = true)
    (hk : (Cond.classLink own ik cls).before args s = true) (hini : (Cond.initialized cls).before args s = true) (hstr : vk_R own is text sa s) (hat : ∀ w ∈ vx_atS own ic cls names, w.before args s = true)
    (hgood : ∀ w ∈ Cond.classLink own ik cls :: Cond.initialized cls :: vx_atS own ic cls names, vx_ot w = true)
    (hU : vx_Zq Bundle.tN "UNASSIGNED_STACK" Bundle.steD A s s.heap) (hN : vx_Zq Bundle.tN "SUPPRESSED_SENTINEL" Bundle.listD A s s.heap) (hS : va_S A s.heap H locs) (hsize : ls.size = c.maxLocals)
    (d0 : decode cc pc = .ok (.new ik, 3)) (d3 : decode cc (pc + 3) = .ok (.dup, 1)) (d4 : decode cc (pc + 4) = .ok (.ldc is, 2)) (d6 : decode cc (pc + 6) = .ok (.invokespecial ic, 3)) (d9 : decode cc (pc + 9) = .ok (.athrow, 1))
    (hout : ∀ x ∈ c.exceptionTable.toList, covers x (pc + 9) = false)
    (hRframes : names.length + 3 < R.frames) (hRlocals : (rest.map fun v => v.category).sum + (13 * (names.length + 1) + 43) ≤ R.locals) (hRcells : cells + 1 ≤ R.cells) (hRslots : slots + 6 ≤ R.slots) (hlocks : meth.locks = false)
    (hx : ∀ t : State, s.vm.Alike t.vm → H.size ≤ t.heap.size → (∀ q : Nat, q < H.size → t.heap[q]? = H[q]?) → XC cls s t)
    (hf : ∀ z ∈ locs, free z.base) (hc : cells + 1 ≤ mc) (hs : slots + 6 ≤ ms) :
    W p l e R s m args below meth c H locs cells slots (vx_MQ below Qc XC args s mc ms free) (F0 m pc ls rest) := by
  intro T hT X
  have htr : e.platform.stackTraces = false := (show e.platform.stackTraces = l.stackTraces by rw [X.admits.platform]).trans hl
  have Y := vx_rebase X (R' := { frames := R.frames, locals := R.locals, cells := 1, slots := 6 }) (Nat.le_refl _) (Nat.le_refl _) hRcells hRslots
  obtain ⟨s', hA⟩ : ∃ z, z = (T.setVm s.vm).setFrames (.invoking m args :: below) := ⟨_, rfl⟩
  rw [← hA] at Y
  have hvm : s'.vm = s.vm := by rw [hA]; rfl
  have hhp : s'.heap = H := by rw [hA]; exact hT
  have hW0 : s.WarmedH s'.vm := by rw [hvm]; exact State.WarmedH.refl s
  have hat' : ∀ w ∈ vx_atS own ic cls names, w.before args s' = true := fun w hw => vx_ot_at hW0 hvm.symm (hgood w (List.mem_cons_of_mem _ (List.mem_cons_of_mem _ hw))) (hat w hw)
  have hk' : (Cond.classLink own ik cls).before args s' = true := vx_ot_at hW0 hvm.symm (hgood _ List.mem_cons_self) hk
  have hini' : (Cond.initialized cls).before args s' = true := vx_ot_at hW0 hvm.symm (hgood _ (List.mem_cons_of_mem _ List.mem_cons_self)) hini
  have hU' : vx_Zq Bundle.tN "UNASSIGNED_STACK" Bundle.steD A s' s'.heap := by rw [hhp]; exact vx_Zq.moved hW0.alike (hU.kept hS.2.1)
  have hN' : vx_Zq Bundle.tN "SUPPRESSED_SENTINEL" Bundle.listD A s' s'.heap := by rw [hhp]; exact vx_Zq.moved hW0.alike (hN.kept hS.2.1)
  have h : ∀ w ∈ Bundle.ownAtoms own ic cls names, w.before args s' = true := vx_own hat' (vx_isRefq hU'.1) (vx_isRefq hN'.1) hU'.2.word hN'.2.word
  have hown' : s'.vm.findClass own = some m.cls := by rw [hvm]; exact hown
  have hins : (Cond.instantiable cls 6).before args s' = true := h _ (by simp [Bundle.ownAtoms])
  obtain ⟨vm₁, cX, kX, hfX, hkX, -, -, X₁, st1⟩ := Y.newCold hexec (own := own) (C := cls) (index := ik) (n := 6) hown' hk' hins hini'
    (g := F0 m pc ls rest) rfl (by rw [hb]; exact d0) (Nat.le_refl _) (Nat.le_refl _)
  generalize hT1 : (T.setVm vm₁).pushCell { cls := cX, slots := kX.instanceTypes.map defaultValue, vm := .none } = T1 at X₁ st1
  have hcat : (Value.ref T.heap.size).category = 1 := rfl
  have hcellA : T1.heap[T.heap.size]? = some (freshCell cX kX) := by rw [← hT1]; exact State.heap_pushCell_size _ _
  have d3' : decode c.code (pc + 3) = .ok (.dup, 1) := by rw [hb]; exact d3
  have d4' : decode c.code (pc + 4) = .ok (.ldc is, 2) := by rw [hb]; exact d4
  have hstr' : vk_R own is text sa s' := vk_R.warm hW0 hstr
  obtain ⟨U, hsteps, hrun, hend, hW, hsame, ce, hce, hO⟩ := X₁.ctorThrowS hexec htr (own := own) (cls := cls) (names := names) (ic := ic) hown' hcls hnames h (fun x hx => nomatch hx) hfX hkX hcellA (by rw [hhp, hT]; exact Nat.le_refl _) (msg := .ref sa) rfl
    (g := { method := m, pc := pc + 6, locals := ls, stack := .ref sa :: .ref T.heap.size :: .ref T.heap.size :: rest, locked := none }) rfl hsize rfl rfl (rest := rest) rfl
    (by rw [hb]; exact d6) (by rw [hb]; exact d9) hout hRframes (by simp only [List.map_cons, List.sum_cons, hcat]; omega) hlocks
  obtain ⟨f1, f2⟩ := vx_frame hsame
  rw [hhp] at f1 f2
  have hWs : s.WarmedH U.vm := State.WarmedH.trans hW0 hW
  have hcl : s.vm.findClass cls = some ce.cls := by
    have h9 := hO.cls
    rw [hvm] at h9
    exact h9
  have hall : s.sameButNew ({ U with vm := s.vm } : State) locs mc ms := by
    subst hA
    obtain ⟨e1, e2⟩ := hsame
    rw [State.setFrames_setFrames] at e1
    have h2 : (T.setVm s.vm).sameButNew ({ U with vm := s.vm } : State) [] (0 + 1) (0 + 6) := ⟨e1, e2⟩
    have h3 := X.same.trans h2
    rw [List.append_nil] at h3
    exact h3.mono hc hs
  refine ⟨U, ?_, .threw T.heap.size, hrun, hend, Or.inr ⟨T.heap.size, rfl, cls, ce, locs, hx U hWs.alike f1 (fun q hq => f2 q hq (fun z hz => nomatch hz)), hce, hO.vm, hcl, hWs, hall, hf⟩⟩
  refine st1 _ ?_
  show Steps p.tables e below (T1.setTop { method := m, pc := pc + 3, locals := ls, stack := .ref T.heap.size :: rest, locked := none }) _
  jvm_step X₁.here [X₁.here.top, hexec, d3', Value.category]
  exact X₁.ldcString hexec (own := own) (text := text) (index := is) (a := sa) hown' hstr'.1 hstr'.2
    (g := { method := m, pc := pc + 4, locals := ls, stack := .ref T.heap.size :: .ref T.heap.size :: rest, locked := none }) rfl d4' _ hsteps
/-- 'throw new E("text")', the text by a wide index -/
theorem vx_throwSW {cc : ByteArray} {pc : Nat} (hexec : p.tables.exec = Jvm.exec) (hb : c.code = cc) (hl : l.stackTraces = false) {own cls text : String} {names : List String} {ik is ic mc ms sa : Nat} {A : Nat → Prop}
    (hown : s.vm.findClass own = some m.cls) (hcls : Bundle.fit cls = true) (hnames : ∀ n ∈ names, Bundle.fit n = true)
    (hk : (Cond.classLink own ik cls).before args s = true) (hini : (Cond.initialized cls).before args s = true) (hstr : vk_R own is text sa s) (hat : ∀ w ∈ vx_atS own ic cls names, w.before args s = true)
    (hgood : ∀ w ∈ Cond.classLink own ik cls :: Cond.initialized cls :: vx_atS own ic cls names, vx_ot w = true)
    (hU : vx_Zq Bundle.tN "UNASSIGNED_STACK" Bundle.steD A s s.heap) (hN : vx_Zq Bundle.tN "SUPPRESSED_SENTINEL" Bundle.listD A s s.heap) (hS : va_S A s.heap H locs) (hsize : ls.size = c.maxLocals)
    (d0 : decode cc pc = .ok (.new ik, 3)) (d3 : decode cc (pc + 3) = .ok (.dup, 1)) (d4 : decode cc (pc + 4) = .ok (.ldc_w is, 3)) (d7 : decode cc (pc + 7) = .ok (.invokespecial ic, 3)) (d10 : decode cc (pc + 10) = .ok (.athrow, 1))
    (hout : ∀ x ∈ c.exceptionTable.toList, covers x (pc + 10) = false)
    (hRframes : names.length + 3 < R.frames) (hRlocals : (rest.map fun v => v.category).sum + (13 * (names.length + 1) + 43) ≤ R.locals) (hRcells : cells + 1 ≤ R.cells) (hRslots : slots + 6 ≤ R.slots) (hlocks : meth.locks = false)
    (hx : ∀ t : State, s.vm.Alike t.vm → H.size ≤ t.heap.size → (∀ q : Nat, q < H.size → t.heap[q]? = H[q]?) → XC cls s t)
    (hf : ∀ z ∈ locs, free z.base) (hc : cells + 1 ≤ mc) (hs : slots + 6 ≤ ms) :
    W p l e R s m args below meth c H locs cells slots (vx_MQ below Qc XC args s mc ms free) (F0 m pc ls rest) := by
  intro T hT X
  have htr : e.platform.stackTraces = false := (show e.platform.stackTraces = l.stackTraces by rw [X.admits.platform]).trans hl
  have Y := vx_rebase X (R' := { frames := R.frames, locals := R.locals, cells := 1, slots := 6 }) (Nat.le_refl _) (Nat.le_refl _) hRcells hRslots
  obtain ⟨s', hA⟩ : ∃ z, z = (T.setVm s.vm).setFrames (.invoking m args :: below) := ⟨_, rfl⟩
  rw [← hA] at Y
  have hvm : s'.vm = s.vm := by rw [hA]; rfl
  have hhp : s'.heap = H := by rw [hA]; exact hT
  have hW0 : s.WarmedH s'.vm := by rw [hvm]; exact State.WarmedH.refl s
  have hat' : ∀ w ∈ vx_atS own ic cls names, w.before args s' = true := fun w hw => vx_ot_at hW0 hvm.symm (hgood w (List.mem_cons_of_mem _ (List.mem_cons_of_mem _ hw))) (hat w hw)
  have hk' : (Cond.classLink own ik cls).before args s' = true := vx_ot_at hW0 hvm.symm (hgood _ List.mem_cons_self) hk
  have hini' : (Cond.initialized cls).before args s' = true := vx_ot_at hW0 hvm.symm (hgood _ (List.mem_cons_of_mem _ List.mem_cons_self)) hini
  have hU' : vx_Zq Bundle.tN "UNASSIGNED_STACK" Bundle.steD A s' s'.heap := by rw [hhp]; exact vx_Zq.moved hW0.alike (hU.kept hS.2.1)
  have hN' : vx_Zq Bundle.tN "SUPPRESSED_SENTINEL" Bundle.listD A s' s'.heap := by rw [hhp]; exact vx_Zq.moved hW0.alike (hN.kept hS.2.1)
  have h : ∀ w ∈ Bundle.ownAtoms own ic cls names, w.before args s' = true := vx_own hat' (vx_isRefq hU'.1) (vx_isRefq hN'.1) hU'.2.word hN'.2.word
  have hown' : s'.vm.findClass own = some m.cls := by rw [hvm]; exact hown
  have hins : (Cond.instantiable cls 6).before args s' = true := h _ (by simp [Bundle.ownAtoms])
  obtain ⟨vm₁, cX, kX, hfX, hkX, -, -, X₁, st1⟩ := Y.newCold hexec (own := own) (C := cls) (index := ik) (n := 6) hown' hk' hins hini'
    (g := F0 m pc ls rest) rfl (by rw [hb]; exact d0) (Nat.le_refl _) (Nat.le_refl _)
  generalize hT1 : (T.setVm vm₁).pushCell { cls := cX, slots := kX.instanceTypes.map defaultValue, vm := .none } = T1 at X₁ st1
  have hcat : (Value.ref T.heap.size).category = 1 := rfl
  have hcellA : T1.heap[T.heap.size]? = some (freshCell cX kX) := by rw [← hT1]; exact State.heap_pushCell_size _ _
  have d3' : decode c.code (pc + 3) = .ok (.dup, 1) := by rw [hb]; exact d3
  have d4' : decode c.code (pc + 4) = .ok (.ldc_w is, 3) := by rw [hb]; exact d4
  have hstr' : vk_R own is text sa s' := vk_R.warm hW0 hstr
  obtain ⟨U, hsteps, hrun, hend, hW, hsame, ce, hce, hO⟩ := X₁.ctorThrowS hexec htr (own := own) (cls := cls) (names := names) (ic := ic) hown' hcls hnames h (fun x hx => nomatch hx) hfX hkX hcellA (by rw [hhp, hT]; exact Nat.le_refl _) (msg := .ref sa) rfl
    (g := { method := m, pc := pc + 7, locals := ls, stack := .ref sa :: .ref T.heap.size :: .ref T.heap.size :: rest, locked := none }) rfl hsize rfl rfl (rest := rest) rfl
    (by rw [hb]; exact d7) (by rw [hb]; exact d10) hout hRframes (by simp only [List.map_cons, List.sum_cons, hcat]; omega) hlocks
  obtain ⟨f1, f2⟩ := vx_frame hsame
  rw [hhp] at f1 f2
  have hWs : s.WarmedH U.vm := State.WarmedH.trans hW0 hW
  have hcl : s.vm.findClass cls = some ce.cls := by
    have h9 := hO.cls
    rw [hvm] at h9
    exact h9
  have hall : s.sameButNew ({ U with vm := s.vm } : State) locs mc ms := by
    subst hA
    obtain ⟨e1, e2⟩ := hsame
    rw [State.setFrames_setFrames] at e1
    have h2 : (T.setVm s.vm).sameButNew ({ U with vm := s.vm } : State) [] (0 + 1) (0 + 6) := ⟨e1, e2⟩
    have h3 := X.same.trans h2
    rw [List.append_nil] at h3
    exact h3.mono hc hs
  refine ⟨U, ?_, .threw T.heap.size, hrun, hend, Or.inr ⟨T.heap.size, rfl, cls, ce, locs, hx U hWs.alike f1 (fun q hq => f2 q hq (fun z hz => nomatch hz)), hce, hO.vm, hcl, hWs, hall, hf⟩⟩
  refine st1 _ ?_
  show Steps p.tables e below (T1.setTop { method := m, pc := pc + 3, locals := ls, stack := .ref T.heap.size :: rest, locked := none }) _
  jvm_step X₁.here [X₁.here.top, hexec, d3', Value.category]
  exact X₁.ldcStringW hexec (own := own) (text := text) (index := is) (a := sa) hown' hstr'.1 hstr'.2
    (g := { method := m, pc := pc + 4, locals := ls, stack := .ref T.heap.size :: .ref T.heap.size :: rest, locked := none }) rfl d4' _ hsteps
end Ends
section Bodies
variable {l : Launch}
theorem vx_ofW {y : MethodName} {ws ws' : List Cond} {rm : Room} {Pc : Array Value → State → Prop} {Qc : Array Value → State → Outcome → State → Prop} {XC : String → State → State → Prop} {mc ms : Nat} {free : Addr → Prop} {cc : ByteArray} {maxL : Nat} {ret : Option FieldType}
    (hy : plainName y.cls = true) (hw : ws = Cond.code y cc maxL ret :: ws')
    (body : ∀ p e s m args below meth c s₁, BodyLoose p l y (headSpec ws rm) cc maxL ret e s m args below meth c s₁ → c.maxLocals = maxL → (∀ x ∈ c.exceptionTable.toList, False) → Pc args s →
      W p l e (headSpec ws rm).room s m args below meth c s.heap [] 0 0 (vx_MQ below Qc XC args s mc ms free) (entryFrame m args maxL)) : vx_Met l y ws rm Pc Qc XC mc ms free := by
  refine MetFree.of_bodyS (code := cc) (maxLocals := maxL) (ret := ret) hy ?_ ?_
  · intro args s m h hn
    obtain ⟨meth, c, h1, h2, h3, h4, h5, h6, -, -⟩ := Cond.code_spec hn (atoms_spec (ws := ws) h _ (by rw [hw]; exact List.mem_cons_self))
    exact ⟨meth, c, h1, h2, h3, h4, h5, h6⟩
  · intro p e s m args below meth c s₁ B hml hP _
    have hh0 : s₁.heap = s.heap := by rw [B.state]; rfl
    have ht : ∀ x ∈ c.exceptionTable.toList, False := by
      obtain ⟨meth9, c9, h1, h2, -, -, -, -, h7, -⟩ := Cond.code_spec B.named (atoms_spec (ws := ws) B.pre _ (by rw [hw]; exact List.mem_cons_self))
      cases Option.some.inj (h1.symm.trans B.method)
      cases Option.some.inj (h2.symm.trans (Stand.of_body B).code)
      intro x hx
      rw [Array.isEmpty_iff.mp h7] at hx
      cases hx
    obtain ⟨t, a1, o, b1, b2, b3⟩ := body p e s m args below meth c s₁ B hml ht hP s₁ hh0 (Stand.of_body B)
    exact ⟨t, o, a1, b1, b2, b3⟩
/-- the table of a body with handlers -/
theorem vx_table {p : Program} {x y : MethodName} {S : Spec} {cc bytes : ByteArray} {maxL maxL' : Nat} {ret ret' : Option FieldType} {e : Env} {s s₁ : State} {m : MethodId} {args : Array Value} {below : List Frame} {meth : Method} {c : Code} {hh : List (Nat × Nat × Nat × Nat)}
    (B : BodyLoose p l y S cc maxL ret e s m args below meth c s₁) (h : (Cond.codeWith y bytes maxL' ret' hh).before args s = true) : c.exceptionTable.toList = tableOf hh := by
  obtain ⟨m9, meth9, c9, hn9, h1, h2, -, -, h6, -⟩ := Cond.codeWith_spec h
  cases Option.some.inj (hn9.symm.trans B.named)
  cases Option.some.inj (h1.symm.trans B.method)
  cases Option.some.inj (h2.symm.trans (Stand.of_body B).code)
  rw [← h6, table_eq]
end Bodies
end VXA
/-! ===== END ===== -/
/-! ===== BEGIN a static call of a method with an exception table ===== -/
section VXS
variable {p : Program} {l : Launch} {e : Env} {R : Room} {s : State} {m : MethodId} {args : Array Value} {below : List Frame} {meth : Method} {c : Code} {T : State} {H : Heap} {locs : List Loc} {cells slots : Nat}
abbrev vx_CSW (R : Room) (s : State) (args : Array Value) (own : String) (index : Nat) (y : MethodName) (bytes : ByteArray) (maxL : Nat) (ret : Option FieldType) (hh : List (Nat × Nat × Nat × Nat)) (ws : List Cond) (rm : Room) (mc ms n : Nat) : Prop :=
  (rm.cells = mc ∧ rm.slots = ms ∧ rm.frames + 1 ≤ R.frames ∧ 8 + (maxL + 11) + rm.locals ≤ R.locals ∧ (∀ w ∈ ws, ∀ (a' : Array Value) (U : State), s.WarmedH U.vm → w.before a' U = true) ∧ Cond.codeWith y bytes maxL ret hh ∈ ws) ∧
  (Cond.codeWith y bytes maxL ret hh).before args s = true ∧ (Cond.initialized y.cls).before args s = true ∧ (y.cls ≠ "java/lang/invoke/MethodHandle" ∧ y.cls ≠ "java/lang/invoke/VarHandle") ∧
  (∀ sig, parseMethodDescriptor y.desc = some sig → n = sig.parameters.length) ∧ (Cond.methodLink own index y).before args s = true ∧ (Cond.static y).before args s = true
theorem vx_cwSW {own : String} {index maxL mc ms : Nat} {y : MethodName} {bytes : ByteArray} {ret : Option FieldType} {hh : List (Nat × Nat × Nat × Nat)} {Ts ws ws' : List Cond} {rm : Room} (n : Nat) (ht : ∀ w ∈ Ts, w.before args s = true) (hT : GoodIn Ts (va_wsS own index y ws)) (hw : ws = Cond.codeWith y bytes maxL ret hh :: ws') (hrc : rm.cells = mc) (hrs : rm.slots = ms)
    (hd : y.cls ≠ "java/lang/invoke/MethodHandle" ∧ y.cls ≠ "java/lang/invoke/VarHandle" ∧ (parseMethodDescriptor y.desc).map (fun d => d.parameters.length) = some n) (hR : rm.frames + 1 ≤ R.frames ∧ 8 + (maxL + 11) + rm.locals ≤ R.locals) :
    vx_CSW R s args own index y bytes maxL ret hh ws rm mc ms n := by
  have ok : ∀ w ∈ va_wsS own index y ws, w.before args s = true := fun w h => ht w (hT w h).1
  have hG : GoodIn Ts ws := fun w h => hT w (by unfold va_wsS; exact List.mem_append_right _ h)
  have hc : Cond.codeWith y bytes maxL ret hh ∈ ws := by rw [hw]; exact List.mem_cons_self
  refine ⟨⟨hrc, hrs, hR.1, hR.2, pay_in ht hG, hc⟩, ht _ (hG _ hc).1, ok _ (by simp [va_wsS]), ⟨hd.1, hd.2.1⟩, fun sig h => ?_, ok _ (by simp [va_wsS]), ok _ (by simp [va_wsS])⟩
  have h2 := hd.2.2
  rw [h] at h2
  exact (Option.some.inj h2).symm
theorem vx_callSW (X : Stand p l e R s m args below meth c T locs cells slots) (hexec : p.tables.exec = Jvm.exec) {own : String} {index : Nat} {y : MethodName} {bytes : ByteArray} {maxL : Nat} {ret : Option FieldType} {hh : List (Nat × Nat × Nat × Nat)}
    (hown : s.vm.findClass own = some m.cls) (hlink : (Cond.methodLink own index y).before args s = true) (hstat : (Cond.static y).before args s = true) (hinit : (Cond.initialized y.cls).before args s = true)
    (hcode : (Cond.codeWith y bytes maxL ret hh).before args s = true) (hy : y.cls ≠ "java/lang/invoke/MethodHandle" ∧ y.cls ≠ "java/lang/invoke/VarHandle")
    {W9 : Nat} {Pre : Pt → Array Value → Prop} {Post : Pt → Array Value → Option Value → Pt → Prop} (hK : Back l R p e below s args y 3 W9 Pre Post)
    {g : JFrame} (hg : g.method = m) (hsize : g.locals.size = c.maxLocals) {argsL rest : List Value} (hlen : ∀ sig, parseMethodDescriptor y.desc = some sig → argsL.length = sig.parameters.length)
    (hstack : g.stack = argsL.reverse ++ rest) (hW : 2 * g.monitorRoom + (rest.map fun v => v.category).sum ≤ W9) (hdg : decode c.code g.pc = .ok (.invokestatic index, 3))
    (hpre : ∀ vm₁, s.WarmedH vm₁ → Pre ⟨T.setVm vm₁, locs, cells, slots⟩ argsL.toArray) :
    ∃ (v : Option Value) (vm₁ : Vm) (B : Pt), s.WarmedH vm₁ ∧ Stand p l e R s m args below meth c B.U B.locs B.cells B.slots ∧ Post ⟨T.setVm vm₁, locs, cells, slots⟩ argsL.toArray v B ∧
      ∀ target, Steps p.tables e below (B.U.setTop { g with pc := g.pc + 3, stack := v.toList ++ rest }) target → Steps p.tables e below (T.setTop g) target := by
  obtain ⟨mk, methM, cM, hnamed, hmethM, -, -, -, -, -, -, hsigM⟩ := Cond.codeWith_spec hcode
  have hstatic : methM.isStatic = true := Cond.static_spec hnamed hmethM hstat
  obtain ⟨kP, hkP, -⟩ := className_of_methodNamed hnamed
  have hinitP : kP.init = .initialized := Cond.initialized_spec (findClass_of_methodNamed hnamed) hkP hinit
  obtain ⟨vm₁, X₁, hstep₁⟩ := X.invokestatic hexec hown hlink hnamed hmethM hstatic hkP hinitP hy (g := g) hg (argsL := argsL) (rest := rest) (hlen _ hsigM) hstack hdg
  obtain ⟨v, B, X', hpost, hsteps⟩ := hK m meth c ⟨T.setVm vm₁, locs, cells, slots⟩ { g with stack := rest } (.invokestatic index) mk argsL.toArray X₁ hg hsize hdg hW (X₁.named hnamed) (hpre vm₁ X₁.warmed)
  exact ⟨v, vm₁, B, X₁.warmed, X', hpost, fun target h => hstep₁ _ fun acts => by rw [doInvoke_state]; exact hsteps.trans h⟩
theorem vx_runSW {y : MethodName} {bytes cc : ByteArray} {maxL nL mc ms n index : Nat} {ret : Option FieldType} {hh : List (Nat × Nat × Nat × Nat)} {ws : List Cond} {rm : Room} {Pc : Array Value → State → Prop} {Qc : Array Value → State → Outcome → State → Prop} {free : Addr → Prop} {Ts : List Cond} {own : String} {As rest : List Value} {g : JFrame}
    (S : CallFix p m c cc nL s args Ts own) (hM : Met l y ws rm Pc Qc mc ms free) (cw : vx_CSW R s args own index y bytes maxL ret hh ws rm mc ms n) (hp : PreS s H Pc As)
    (hg : g.method = m) (hn : As.length = n) (hsize : g.locals.size = nL) (hstack : g.stack = As.reverse ++ rest) (hW : 2 * g.monitorRoom + (rest.map fun v => v.category).sum ≤ 8) (hdg : decode cc g.pc = .ok (.invokestatic index, 3)) (hf : cells + mc ≤ R.cells ∧ slots + ms ≤ R.slots) :
    va_Run p l e R s m args below meth c H locs cells slots mc ms g rest (Qc As.toArray) (free) := by
  obtain ⟨⟨hrc, hrs, hfr, hlo, hws, hcw⟩, hcode, hini, hy, hlen, hl, hstt⟩ := cw
  have hK : Back l R p e below s args y 3 8 (PreOf R mc ms Pc) (PostOf Qc mc ms free) := va_backW (hh := hh) (bytes := bytes) (maxL := maxL) (ret := ret) hM hp.1 hrc hrs hfr hlo hws hcw (fun a' U hW => word_at hW (Or.inl (by first | rfl | simp [Cond.onTables, Cond.keeps, Cond.steady])) hini)
  obtain ⟨hx, hb, hml, ho, -⟩ := S
  intro T hT X
  obtain ⟨v, vm₁, ⟨U', l2, c2, s2⟩, hW₁, X', ⟨g', mk, t, L, e1, e2, hq, h1, hL, h2, h3⟩, st⟩ := vx_callSW X hx (hh := hh) (bytes := bytes) (maxL := maxL) (ret := ret) ho hl hstt hini hcode hy hK hg (hsize.trans hml.symm) (argsL := As) (rest := rest) (fun sig h => hn.trans (hlen sig h)) hstack hW (by rw [hb]; exact hdg)
    (fun vm₁ hW₁ => ⟨hf.1, hf.2, hp.2 (T.setVm vm₁) hT hW₁⟩)
  dsimp only [Pt.U, Pt.locs, Pt.cells, Pt.slots] at X' e1 e2 h1 h2 h3 st
  subst h1; subst h2; subst h3
  exact ⟨v, (T.setVm vm₁).calling g' mk As.toArray, t, U', L, hT, X', hL, e1, e2, hq, st⟩
/-- not caught here, past rows that name other classes: it goes on to the caller -/
theorem vx_outP {p : Program} {l : Launch} {e : Env} {R : Room} {s : State} {m : MethodId} {args : Array Value} {below : List Frame} {meth : Method} {c : Code} {H : Heap} {locs : List Loc} {cells slots : Nat} {free : Addr → Prop} {ls : Array Slot} {rest : List Value} {Qc : Array Value → State → Outcome → State → Prop} {XC : String → State → State → Prop}
    {pc : Nat} {own E : String} {ce : Cell} {q : Addr} {mc ms : Nat} (hown : s.vm.findClass own = some m.cls) (hlocks : meth.locks = false)
    (hpass : ∀ z ∈ c.exceptionTable.toList, covers z pc = false ∨ (z.catchType ≠ 0 ∧ ∃ nm : String, (Cond.classLink own z.catchType nm).before args s = true ∧ va_Nc E nm s)) (hcell : H[q]? = some ce) (hv : ce.vm = .none) (hcl : s.vm.findClass E = some ce.cls)
    (hx : ∀ t : State, t.heap = H → s.vm.Alike t.vm → XC E s t) (hf : ∀ z ∈ locs, free z.base) (hc : cells ≤ mc) (hs : slots ≤ ms) :
    vx_W p l e R s m args below meth c H locs cells slots (vx_MQ below Qc XC args s mc ms free) (F0 m pc ls rest) q := by
  intro T hT X
  have hpl : e.platform.magicAccessors = ({} : Platform).magicAccessors := by rw [X.admits.platform]
  obtain ⟨vm', hW', X', st⟩ := X.outThrough hlocks q (g := F0 m pc ls rest) rfl rfl rfl (cell := ce) (by rw [hT]; exact hcell) (by rw [hv]; rfl)
    (by obtain ⟨k9, h9, -⟩ := Vm.findClass_spec hcl; exact ⟨k9, h9⟩) (fun z hz => by
      rcases hpass z hz with h | ⟨hz0, nm, hl1, hn1⟩
      · exact Or.inl h
      · obtain ⟨c6, hc6, hcl6⟩ := Cond.classLink_spec hown hl1 e.platform hpl
        obtain ⟨a8, b8, h1, h2, h3⟩ := hn1
        cases Option.some.inj (h1.symm.trans hcl)
        cases Option.some.inj (h2.symm.trans hc6)
        exact Or.inr ⟨hz0, _, hcl6, h3⟩)
  obtain ⟨g₀, hfr⟩ := X'.frames_eq
  have hcell9 : ((T.setVm vm').setFrames (.throwing q :: below)).heap[q]? = some ce := by
    show T.heap[q]? = some ce
    rw [hT]; exact hcell
  have hend : Ended ((T.setVm vm').setFrames (.throwing q :: below)) below (.threw q) := State.frames_setFrames _ (State.cur_lt_of_frames hfr)
  refine ⟨(T.setVm vm').setFrames (.throwing q :: below), ?_, .threw q, X'.here.running, hend, Or.inr ⟨q, rfl, E, ce, locs, hx _ hT (X'.ends _).1.alike, hcell9, hv, hcl, (X'.ends _).1, (X'.ends _).2.mono hc hs, hf⟩⟩
  rw [X.pushThrowing_eq]
  exact st
/-- a thing of a world lies in the heap -/
theorem vx_lt {D : va_G} {cl : List vw_C} {ws : va_W} {H1 : Heap} (h : va_P D cl ws H1) {k : Nat} {q : Nat × va_E} (hk : ws[k]? = some q) : q.1 < H1.size := (h k q hk).lt
end VXS
/-! ===== END ===== -/
/-! ===== BEGIN methods with a table of their own: called by a name, returning or throwing ===== -/
section VXH
/-! vx_backW, vx_callVX, vx_callSX, vx_callVW, vx_runVW, vx_runVX, vx_runSX, vx_ofWH follow the same proofs as their sisters above (Free/Laws.lean, Shelf42/LK1.lean); vx_outP calls Shelf42/NT130.lean (outThrough). -/
section
variable {l : Launch} {R : Room} {p : Program} {e : Env} {below : List Frame} {s : State} {sargs : Array Value} {y : MethodName} {len W9 : Nat}
theorem vx_backW {ws : List Cond} {rm : Room} {Pc : Array Value → State → Prop} {Qc : Array Value → State → Outcome → State → Prop} {XC : String → State → State → Prop} {mc ms : Nat} {free : Addr → Prop} {bytes : ByteArray} {maxL : Nat} {ret : Option FieldType} {hh : List (Nat × Nat × Nat × Nat)}
    (hM : vx_Met l y ws rm Pc Qc XC mc ms free) (hblind : FrameBlind Pc) (hrc : rm.cells = mc) (hrs : rm.slots = ms)
    (hframes : rm.frames + 1 ≤ R.frames) (hlocals : W9 + (maxL + 11) + rm.locals ≤ R.locals)
    (hws : ∀ w ∈ ws, ∀ a' U, s.WarmedH U.vm → w.before a' U = true) (hcode : Cond.codeWith y bytes maxL ret hh ∈ ws) (hinit : ∀ a' U, s.WarmedH U.vm → (Cond.initialized y.cls).before a' U = true) :
    vx_Back l R p e below s sargs y len W9 (PreOf R mc ms Pc) (PostOf Qc mc ms free) (vx_Post XC mc ms free) := by
  intro m meth c A g ig mk a X hg hsize hdg hW hn hp
  have h1 : (headSpec ws rm).pre.before a A.U = true := atoms_intro fun w hw => hws w hw _ _ X.warmed
  have h2 : (Cond.codeWith y bytes maxL ret hh).before a A.U = true := hws _ hcode _ _ X.warmed
  have h3 : (Cond.initialized y.cls).before a A.U = true := hinit _ _ X.warmed
  have h4 : A.cells + (headSpec ws rm).room.cells ≤ R.cells := by rw [show (headSpec ws rm).room.cells = mc from hrc]; exact hp.1
  have h5 : A.slots + (headSpec ws rm).room.slots ≤ R.slots := by rw [show (headSpec ws rm).room.slots = ms from hrs]; exact hp.2.1
  have hPc : Pc a (A.U.calling g mk a) := hblind _ _ _ _ hp.2.2
  obtain ⟨U, Ls, c0, s0⟩ := A
  dsimp only [Pt.U, Pt.locs, Pt.cells, Pt.slots] at h1 h2 h3 h4 h5 X hn hPc ⊢
  obtain ⟨m9, methY, cY, hn9, hmY, hcY, -, hlY, -⟩ := Cond.codeWith_spec h2
  cases Option.some.inj (hn9.symm.trans hn)
  obtain ⟨kY, hkY, -⟩ := className_of_methodNamed hn
  have hinitY : kY.init = .initialized := Cond.initialized_spec (findClass_of_methodNamed hn) hkY h3
  have h : At U g.method c below := by rw [hg]; exact X.here
  have hlocals9 : W9 + (maxL + 11) + (headSpec ws rm).room.locals ≤ R.locals := hlocals
  have happ : (headSpec ws rm).appliesLoose y e.platform (U.calling g mk a) = true :=
    Spec.appliesLoose_calling (g := g) h hdg hn hkY hinitY
      (X.room_calling (g := g) (R' := (headSpec ws rm).room) hsize hmY hcY hframes (by rw [hlY]; omega) h4 h5) h1
  obtain ⟨mid, hmid⟩ := h.above
  have hfr : (U.setTop g).frames = (.java g :: mid) ++ below := by rw [State.frames_setTop' g h.top, hmid]; rfl
  obtain ⟨o, s₂, hsteps, -, hend, hq⟩ := Steps.callFree hM p X.admits X.cas X.clock (acts := []) hfr happ hPc trivial
  have hq' : vx_Q Qc XC mc ms free a (U.calling g mk a) o s₂ := hq
  rw [State.frames_setTop' g h.top] at hend
  obtain ⟨g₀, hg0⟩ := Option.isSome_iff_exists.mp h.top
  obtain ⟨r, hr⟩ := State.topJava?_eq_some.mp hg0
  have hr' : (({ U with heap := s₂.heap, slotsUsed := s₂.slotsUsed } : State).setVm s₂.vm).frames = .java g₀ :: r := hr
  rcases hq' with ⟨hqc, L, hfe, hL⟩ | ⟨q, rfl, E, ce, L, hx, hce, hcv, hcl, hW₂, hsm, hL⟩
  · obtain ⟨⟨v, rfl⟩, hW₂, e2, q2, q3, q4, q5, q6⟩ := id hfe
    have e3 : s₂ = ({ (U.calling g mk a).setFrames s₂.frames with heap := s₂.heap, slotsUsed := s₂.slotsUsed } : State).setVm s₂.vm := by
      have : s₂ = ({ s₂ with vm := (U.calling g mk a).vm } : State).setVm s₂.vm := rfl
      rw [e2] at this
      exact this
    obtain ⟨c₂, i₂, len₂, hc₂, hd₂, hf₂⟩ := hend
    have hW' : U.WarmedH s₂.vm := hW₂
    have hcc : c₂ = c := by
      have h1 : s₂.code? g.method = U.code? g.method := by
        rw [State.code?_eq, State.code?_eq, hW'.alike.method?]
      exact Option.some.inj (hc₂.symm.trans (h1.trans h.code))
    subst hcc
    have hlen : len₂ = len := by rw [hdg] at hd₂; cases hd₂; rfl
    subst hlen
    have hs₂ : s₂ = (({ U with heap := s₂.heap, slotsUsed := s₂.slotsUsed } : State).setVm s₂.vm).setTop { g with pc := g.pc + len₂, stack := v.toList ++ g.stack } := by
      refine e3.trans ?_
      rw [hf₂, State.calling_eq h.top, State.setFrames_setFrames, State.setTop_of_frames _ hr', hr]
      rfl
    have hsame : U.sameButNew ({ U with heap := s₂.heap, slotsUsed := s₂.slotsUsed } : State) L mc ms := by
      refine ⟨?_, q2, q3, q4, q5, q6⟩
      obtain ⟨t, ht, -⟩ := State.frames_cons hr
      show ({ U with heap := s₂.heap, slotsUsed := s₂.slotsUsed } : State) = { U.setFrames U.frames with heap := s₂.heap, slotsUsed := s₂.slotsUsed }
      rw [State.setFrames_self ht]
    subst hg
    refine Or.inl ⟨v, ⟨(({ U with heap := s₂.heap, slotsUsed := s₂.slotsUsed } : State).setVm s₂.vm), Ls ++ L, c0 + mc, s0 + ms⟩,
      ⟨X.admits, X.cas, X.clock, X.frames, X.room, X.hears, X.method, X.code, (X.here.setHeapUsed s₂.heap s₂.slotsUsed).setVm hW'.alike, X.tail, State.WarmedH.trans X.warmed hW', X.limits, X.bytes, X.same.trans (hsame.setVm s.vm)⟩,
      ⟨g, mk, s₂, L, rfl, rfl, hqc, rfl, hL, rfl, rfl⟩, ?_⟩
    show Steps p.tables e below _ ((({ U with heap := s₂.heap, slotsUsed := s₂.slotsUsed } : State).setVm s₂.vm).setTop { g with pc := g.pc + len₂, stack := v.toList ++ g.stack })
    rw [← hs₂]
    exact hsteps
  · obtain ⟨e2, q2, q3, q4, q5, q6⟩ := id hsm
    have e3 : s₂ = ({ (U.calling g mk a).setFrames s₂.frames with heap := s₂.heap, slotsUsed := s₂.slotsUsed } : State).setVm s₂.vm := by
      have : s₂ = ({ s₂ with vm := (U.calling g mk a).vm } : State).setVm s₂.vm := rfl
      rw [e2] at this
      exact this
    have hf₂ : s₂.frames = .throwing q :: .java g :: U.frames.tail := hend
    have hW' : U.WarmedH s₂.vm := hW₂
    have hs₂ : s₂ = ((({ U with heap := s₂.heap, slotsUsed := s₂.slotsUsed } : State).setVm s₂.vm).setTop g).pushFrame (.throwing q) := by
      refine e3.trans ?_
      rw [hf₂, State.calling_eq h.top, State.setFrames_setFrames, State.pushFrame, State.frames_setTop _ hr', State.setTop_of_frames _ hr', State.setFrames_setFrames, hr]
      rfl
    have hsame : U.sameButNew ({ U with heap := s₂.heap, slotsUsed := s₂.slotsUsed } : State) L mc ms := by
      refine ⟨?_, q2, q3, q4, q5, q6⟩
      obtain ⟨t, ht, -⟩ := State.frames_cons hr
      show ({ U with heap := s₂.heap, slotsUsed := s₂.slotsUsed } : State) = { U.setFrames U.frames with heap := s₂.heap, slotsUsed := s₂.slotsUsed }
      rw [State.setFrames_self ht]
    subst hg
    refine Or.inr ⟨q, ⟨(({ U with heap := s₂.heap, slotsUsed := s₂.slotsUsed } : State).setVm s₂.vm), Ls ++ L, c0 + mc, s0 + ms⟩,
      ⟨X.admits, X.cas, X.clock, X.frames, X.room, X.hears, X.method, X.code, (X.here.setHeapUsed s₂.heap s₂.slotsUsed).setVm hW'.alike, X.tail, State.WarmedH.trans X.warmed hW', X.limits, X.bytes, X.same.trans (hsame.setVm s.vm)⟩,
      ⟨g, mk, s₂, L, E, ce, rfl, rfl, hx, hce, hcv, hcl, rfl, hL, rfl, rfl⟩, ?_⟩
    show Steps p.tables e below _ (((({ U with heap := s₂.heap, slotsUsed := s₂.slotsUsed } : State).setVm s₂.vm).setTop g).pushFrame (.throwing q))
    rw [← hs₂]
    exact hsteps
end
variable {p : Program} {l : Launch} {e : Env} {R : Room} {s : State} {m : MethodId} {args : Array Value} {below : List Frame} {meth : Method} {c : Code} {T : State} {H : Heap} {locs : List Loc} {cells slots : Nat}
theorem vx_callVX (X : Stand p l e R s m args below meth c T locs cells slots) (hexec : p.tables.exec = Jvm.exec) {own C : String} {index : Nat} {y : MethodName} {bytes : ByteArray} {maxL : Nat} {ret : Option FieldType} {hh : List (Nat × Nat × Nat × Nat)}
    (hown : s.vm.findClass own = some m.cls) (hlink : (Cond.methodLink own index y).before args s = true) (hinst : (Cond.instanceMethod y).before args s = true) (hsel : (Cond.selects C y y).before args s = true)
    (hcode : (Cond.codeWith y bytes maxL ret hh).before args s = true) (hy : y.cls ≠ "java/lang/invoke/MethodHandle" ∧ y.cls ≠ "java/lang/invoke/VarHandle")
    {W9 : Nat} {Pre : Pt → Array Value → Prop} {Post : Pt → Array Value → Option Value → Pt → Prop} {PostX : Pt → Array Value → Addr → Pt → Prop} (hK : vx_Back l R p e below s args y 3 W9 Pre Post PostX)
    {b : Addr} {cellB : Cell} (hcell : T.heap[b]? = some cellB) (hobj : cellB.vm.isStatics = false) (hcls : s.vm.findClass C = some cellB.cls)
    {g : JFrame} (hg : g.method = m) (hsize : g.locals.size = c.maxLocals) {argsL rest : List Value} (hlen : ∀ sig, parseMethodDescriptor y.desc = some sig → argsL.length = sig.parameters.length)
    (hstack : g.stack = argsL.reverse ++ .ref b :: rest) (hW : 2 * g.monitorRoom + (rest.map fun v => v.category).sum ≤ W9) (hdg : decode c.code g.pc = .ok (.invokevirtual index, 3))
    (hpre : ∀ vm₁, s.WarmedH vm₁ → Pre ⟨T.setVm vm₁, locs, cells, slots⟩ (Value.ref b :: argsL).toArray) :
    (∃ (v : Option Value) (vm₁ : Vm) (B : Pt), s.WarmedH vm₁ ∧ Stand p l e R s m args below meth c B.U B.locs B.cells B.slots ∧ Post ⟨T.setVm vm₁, locs, cells, slots⟩ (Value.ref b :: argsL).toArray v B ∧
      ∀ target, Steps p.tables e below (B.U.setTop { g with pc := g.pc + 3, stack := v.toList ++ rest }) target → Steps p.tables e below (T.setTop g) target) ∨
    (∃ (q : Addr) (vm₁ : Vm) (B : Pt), s.WarmedH vm₁ ∧ Stand p l e R s m args below meth c B.U B.locs B.cells B.slots ∧ PostX ⟨T.setVm vm₁, locs, cells, slots⟩ (Value.ref b :: argsL).toArray q B ∧
      Steps p.tables e below (T.setTop g) ((B.U.setTop { g with stack := rest }).pushFrame (.throwing q))) := by
  obtain ⟨mk, methM, hnamed, hmethM, hstM, habM⟩ := Cond.instanceMethod_spec hinst
  obtain ⟨m8, methM', cM, hn8, hmethM', -, -, -, -, -, -, hsigM⟩ := Cond.codeWith_spec hcode
  cases Option.some.inj (hn8.symm.trans hnamed)
  cases hmethM.symm.trans hmethM'
  obtain ⟨c2, r2, m2, q1, q2, q3, q4, kP, hkP, hkPi⟩ := Cond.selects_spec hsel
  cases hcls.symm.trans q1
  cases (State.methodFound?_of_named hnamed hy).symm.trans q2
  cases hnamed.symm.trans q3
  have hselP : selectMethod e.platform s.vm cellB.cls mk = .method mk := by rw [Launch.admits_selectMethod X.admits]; exact q4
  obtain ⟨vm₁, X₁, hstep₁⟩ := X.invokevirtual hexec hown hlink hnamed hmethM hstM hkP hkPi hy (a := b) (cell := cellB) hcell
    (fun z h => by rw [h] at hobj; cases hobj) hselP hmethM habM hkP hkPi (g := g) hg (argsL := argsL) (rest := rest) (hlen _ hsigM) hstack hdg
  rcases hK m meth c ⟨T.setVm vm₁, locs, cells, slots⟩ { g with stack := rest } (.invokevirtual index) mk (Value.ref b :: argsL).toArray X₁ hg hsize hdg hW (X₁.named hnamed) (hpre vm₁ X₁.warmed) with ⟨v, B, X', hpost, hsteps⟩ | ⟨q, B, X', hpost, hsteps⟩
  · exact Or.inl ⟨v, vm₁, B, X₁.warmed, X', hpost, fun target h => hstep₁ _ fun acts => by rw [doInvoke_state]; exact hsteps.trans h⟩
  · exact Or.inr ⟨q, vm₁, B, X₁.warmed, X', hpost, hstep₁ _ fun acts => by rw [doInvoke_state]; exact hsteps⟩
theorem vx_callSX (X : Stand p l e R s m args below meth c T locs cells slots) (hexec : p.tables.exec = Jvm.exec) {own : String} {index : Nat} {y : MethodName} {bytes : ByteArray} {maxL : Nat} {ret : Option FieldType} {hh : List (Nat × Nat × Nat × Nat)}
    (hown : s.vm.findClass own = some m.cls) (hlink : (Cond.methodLink own index y).before args s = true) (hstat : (Cond.static y).before args s = true) (hinit : (Cond.initialized y.cls).before args s = true)
    (hcode : (Cond.codeWith y bytes maxL ret hh).before args s = true) (hy : y.cls ≠ "java/lang/invoke/MethodHandle" ∧ y.cls ≠ "java/lang/invoke/VarHandle")
    {W9 : Nat} {Pre : Pt → Array Value → Prop} {Post : Pt → Array Value → Option Value → Pt → Prop} {PostX : Pt → Array Value → Addr → Pt → Prop} (hK : vx_Back l R p e below s args y 3 W9 Pre Post PostX)
    {g : JFrame} (hg : g.method = m) (hsize : g.locals.size = c.maxLocals) {argsL rest : List Value} (hlen : ∀ sig, parseMethodDescriptor y.desc = some sig → argsL.length = sig.parameters.length)
    (hstack : g.stack = argsL.reverse ++ rest) (hW : 2 * g.monitorRoom + (rest.map fun v => v.category).sum ≤ W9) (hdg : decode c.code g.pc = .ok (.invokestatic index, 3))
    (hpre : ∀ vm₁, s.WarmedH vm₁ → Pre ⟨T.setVm vm₁, locs, cells, slots⟩ argsL.toArray) :
    (∃ (v : Option Value) (vm₁ : Vm) (B : Pt), s.WarmedH vm₁ ∧ Stand p l e R s m args below meth c B.U B.locs B.cells B.slots ∧ Post ⟨T.setVm vm₁, locs, cells, slots⟩ argsL.toArray v B ∧
      ∀ target, Steps p.tables e below (B.U.setTop { g with pc := g.pc + 3, stack := v.toList ++ rest }) target → Steps p.tables e below (T.setTop g) target) ∨
    (∃ (q : Addr) (vm₁ : Vm) (B : Pt), s.WarmedH vm₁ ∧ Stand p l e R s m args below meth c B.U B.locs B.cells B.slots ∧ PostX ⟨T.setVm vm₁, locs, cells, slots⟩ argsL.toArray q B ∧
      Steps p.tables e below (T.setTop g) ((B.U.setTop { g with stack := rest }).pushFrame (.throwing q))) := by
  obtain ⟨mk, methM, cM, hnamed, hmethM, -, -, -, -, -, -, hsigM⟩ := Cond.codeWith_spec hcode
  have hstatic : methM.isStatic = true := Cond.static_spec hnamed hmethM hstat
  obtain ⟨kP, hkP, -⟩ := className_of_methodNamed hnamed
  have hinitP : kP.init = .initialized := Cond.initialized_spec (findClass_of_methodNamed hnamed) hkP hinit
  obtain ⟨vm₁, X₁, hstep₁⟩ := X.invokestatic hexec hown hlink hnamed hmethM hstatic hkP hinitP hy (g := g) hg (argsL := argsL) (rest := rest) (hlen _ hsigM) hstack hdg
  rcases hK m meth c ⟨T.setVm vm₁, locs, cells, slots⟩ { g with stack := rest } (.invokestatic index) mk argsL.toArray X₁ hg hsize hdg hW (X₁.named hnamed) (hpre vm₁ X₁.warmed) with ⟨v, B, X', hpost, hsteps⟩ | ⟨q, B, X', hpost, hsteps⟩
  · exact Or.inl ⟨v, vm₁, B, X₁.warmed, X', hpost, fun target h => hstep₁ _ fun acts => by rw [doInvoke_state]; exact hsteps.trans h⟩
  · exact Or.inr ⟨q, vm₁, B, X₁.warmed, X', hpost, hstep₁ _ fun acts => by rw [doInvoke_state]; exact hsteps⟩
theorem vx_callVW (X : Stand p l e R s m args below meth c T locs cells slots) (hexec : p.tables.exec = Jvm.exec) {own C : String} {index : Nat} {y : MethodName} {bytes : ByteArray} {maxL : Nat} {ret : Option FieldType} {hh : List (Nat × Nat × Nat × Nat)}
    (hown : s.vm.findClass own = some m.cls) (hlink : (Cond.methodLink own index y).before args s = true) (hinst : (Cond.instanceMethod y).before args s = true) (hsel : (Cond.selects C y y).before args s = true)
    (hcode : (Cond.codeWith y bytes maxL ret hh).before args s = true) (hy : y.cls ≠ "java/lang/invoke/MethodHandle" ∧ y.cls ≠ "java/lang/invoke/VarHandle")
    {W9 : Nat} {Pre : Pt → Array Value → Prop} {Post : Pt → Array Value → Option Value → Pt → Prop} (hK : Back l R p e below s args y 3 W9 Pre Post)
    {b : Addr} {cellB : Cell} (hcell : T.heap[b]? = some cellB) (hobj : cellB.vm.isStatics = false) (hcls : s.vm.findClass C = some cellB.cls)
    {g : JFrame} (hg : g.method = m) (hsize : g.locals.size = c.maxLocals) {argsL rest : List Value} (hlen : ∀ sig, parseMethodDescriptor y.desc = some sig → argsL.length = sig.parameters.length)
    (hstack : g.stack = argsL.reverse ++ .ref b :: rest) (hW : 2 * g.monitorRoom + (rest.map fun v => v.category).sum ≤ W9) (hdg : decode c.code g.pc = .ok (.invokevirtual index, 3))
    (hpre : ∀ vm₁, s.WarmedH vm₁ → Pre ⟨T.setVm vm₁, locs, cells, slots⟩ (Value.ref b :: argsL).toArray) :
    ∃ (v : Option Value) (vm₁ : Vm) (B : Pt), s.WarmedH vm₁ ∧ Stand p l e R s m args below meth c B.U B.locs B.cells B.slots ∧ Post ⟨T.setVm vm₁, locs, cells, slots⟩ (Value.ref b :: argsL).toArray v B ∧
      ∀ target, Steps p.tables e below (B.U.setTop { g with pc := g.pc + 3, stack := v.toList ++ rest }) target → Steps p.tables e below (T.setTop g) target := by
  obtain ⟨mk, methM, hnamed, hmethM, hstM, habM⟩ := Cond.instanceMethod_spec hinst
  obtain ⟨m8, methM', cM, hn8, hmethM', -, -, -, -, -, -, hsigM⟩ := Cond.codeWith_spec hcode
  cases Option.some.inj (hn8.symm.trans hnamed)
  cases hmethM.symm.trans hmethM'
  obtain ⟨c2, r2, m2, q1, q2, q3, q4, kP, hkP, hkPi⟩ := Cond.selects_spec hsel
  cases hcls.symm.trans q1
  cases (State.methodFound?_of_named hnamed hy).symm.trans q2
  cases hnamed.symm.trans q3
  have hselP : selectMethod e.platform s.vm cellB.cls mk = .method mk := by rw [Launch.admits_selectMethod X.admits]; exact q4
  obtain ⟨vm₁, X₁, hstep₁⟩ := X.invokevirtual hexec hown hlink hnamed hmethM hstM hkP hkPi hy (a := b) (cell := cellB) hcell
    (fun z h => by rw [h] at hobj; cases hobj) hselP hmethM habM hkP hkPi (g := g) hg (argsL := argsL) (rest := rest) (hlen _ hsigM) hstack hdg
  obtain ⟨v, B, X', hpost, hsteps⟩ := hK m meth c ⟨T.setVm vm₁, locs, cells, slots⟩ { g with stack := rest } (.invokevirtual index) mk (Value.ref b :: argsL).toArray X₁ hg hsize hdg hW (X₁.named hnamed) (hpre vm₁ X₁.warmed)
  exact ⟨v, vm₁, B, X₁.warmed, X', hpost, fun target h => hstep₁ _ fun acts => by rw [doInvoke_state]; exact hsteps.trans h⟩
abbrev vx_CVW (R : Room) (s : State) (args : Array Value) (own C : String) (index : Nat) (y : MethodName) (bytes : ByteArray) (maxL : Nat) (ret : Option FieldType) (hh : List (Nat × Nat × Nat × Nat)) (ws : List Cond) (rm : Room) (mc ms n : Nat) : Prop :=
  (rm.cells = mc ∧ rm.slots = ms ∧ rm.frames + 1 ≤ R.frames ∧ 8 + (maxL + 11) + rm.locals ≤ R.locals ∧ (∀ w ∈ ws, ∀ (a' : Array Value) (U : State), s.WarmedH U.vm → w.before a' U = true) ∧ Cond.codeWith y bytes maxL ret hh ∈ ws) ∧
  (Cond.codeWith y bytes maxL ret hh).before args s = true ∧ (Cond.initialized y.cls).before args s = true ∧ (y.cls ≠ "java/lang/invoke/MethodHandle" ∧ y.cls ≠ "java/lang/invoke/VarHandle") ∧
  (∀ sig, parseMethodDescriptor y.desc = some sig → n = sig.parameters.length) ∧ (Cond.methodLink own index y).before args s = true ∧ (Cond.instanceMethod y).before args s = true ∧ (Cond.selects C y y).before args s = true
theorem vx_cwVW {own C : String} {index maxL mc ms : Nat} {y : MethodName} {bytes : ByteArray} {ret : Option FieldType} {hh : List (Nat × Nat × Nat × Nat)} {Ts ws ws' : List Cond} {rm : Room} (n : Nat) (ht : ∀ w ∈ Ts, w.before args s = true) (hT : GoodIn Ts (wsV own index C y ws)) (hw : ws = Cond.codeWith y bytes maxL ret hh :: ws') (hrc : rm.cells = mc) (hrs : rm.slots = ms)
    (hd : y.cls = C ∧ y.cls ≠ "java/lang/invoke/MethodHandle" ∧ y.cls ≠ "java/lang/invoke/VarHandle" ∧ (parseMethodDescriptor y.desc).map (fun d => d.parameters.length) = some n) (hR : rm.frames + 1 ≤ R.frames ∧ 8 + (maxL + 11) + rm.locals ≤ R.locals) :
    vx_CVW R s args own C index y bytes maxL ret hh ws rm mc ms n := by
  obtain ⟨hC, hd⟩ := hd
  subst hC
  have ok : ∀ w ∈ wsV own index y.cls y ws, w.before args s = true := fun w h => ht w (hT w h).1
  have hG : GoodIn Ts ws := fun w h => hT w (by unfold wsV; exact List.mem_append_right _ h)
  have hc : Cond.codeWith y bytes maxL ret hh ∈ ws := by rw [hw]; exact List.mem_cons_self
  refine ⟨⟨hrc, hrs, hR.1, hR.2, pay_in ht hG, hc⟩, ht _ (hG _ hc).1, ok _ (by simp [wsV]), ⟨hd.1, hd.2.1⟩, fun sig h => ?_, ok _ (by simp [wsV]), ok _ (by simp [wsV]), ok _ (by simp [wsV])⟩
  have h2 := hd.2.2
  rw [h] at h2
  exact (Option.some.inj h2).symm
theorem vx_runVW {y : MethodName} {bytes cc : ByteArray} {maxL nL mc ms n index : Nat} {ret : Option FieldType} {hh : List (Nat × Nat × Nat × Nat)} {ws : List Cond} {rm : Room} {Pc : Array Value → State → Prop} {Qc : Array Value → State → Outcome → State → Prop} {free : Addr → Prop} {Ts : List Cond} {own C : String} {b : Addr} {As rest : List Value} {g : JFrame}
    (S : CallFix p m c cc nL s args Ts own) (hM : Met l y ws rm Pc Qc mc ms free) (cw : vx_CVW R s args own C index y bytes maxL ret hh ws rm mc ms n) (hp : PreV s H C b Pc As)
    (hg : g.method = m) (hn : As.length = n) (hsize : g.locals.size = nL) (hstack : g.stack = As.reverse ++ .ref b :: rest) (hW : 2 * g.monitorRoom + (rest.map fun v => v.category).sum ≤ 8) (hdg : decode cc g.pc = .ok (.invokevirtual index, 3)) (hf : cells + mc ≤ R.cells ∧ slots + ms ≤ R.slots) :
    va_Run p l e R s m args below meth c H locs cells slots mc ms g rest (Qc (Value.ref b :: As).toArray) free := by
  obtain ⟨⟨hrc, hrs, hfr, hlo, hws, hcw⟩, hcode, hini, hy, hlen, hl, hin, hse⟩ := cw
  have hK : Back l R p e below s args y 3 8 (PreOf R mc ms Pc) (PostOf Qc mc ms free) := va_backW (hh := hh) (bytes := bytes) (maxL := maxL) (ret := ret) hM hp.1 hrc hrs hfr hlo hws hcw (fun a' U hW => word_at hW (Or.inl (by first | rfl | simp [Cond.onTables, Cond.keeps, Cond.steady])) hini)
  obtain ⟨hx, hb, hml, ho, -⟩ := S
  obtain ⟨-, ⟨cellB, hcB, hoB, hclB⟩, hPc⟩ := hp
  intro T hT X
  obtain ⟨v, vm₁, ⟨U', l2, c2, s2⟩, hW₁, X', ⟨g', mk, t, L, e1, e2, hq, h1, hL, h2, h3⟩, st⟩ := vx_callVW X hx (C := C) (hh := hh) (bytes := bytes) (maxL := maxL) (ret := ret) ho hl hin hse hcode hy hK (by rw [hT]; exact hcB) hoB hclB hg (hsize.trans hml.symm) (argsL := As) (rest := rest) (fun sig h => hn.trans (hlen sig h)) hstack hW (by rw [hb]; exact hdg)
    (fun vm₁ hW₁ => ⟨hf.1, hf.2, hPc (T.setVm vm₁) hT hW₁⟩)
  dsimp only [Pt.U, Pt.locs, Pt.cells, Pt.slots] at X' e1 e2 h1 h2 h3 st
  subst h1; subst h2; subst h3
  exact ⟨v, (T.setVm vm₁).calling g' mk (Value.ref b :: As).toArray, t, U', L, hT, X', hL, e1, e2, hq, st⟩
section
variable {y : MethodName} {bytes cc : ByteArray} {maxL nL mc ms n index : Nat} {ret : Option FieldType} {ws : List Cond} {rm : Room} {Pc : Array Value → State → Prop} {Qc : Array Value → State → Outcome → State → Prop} {XC : String → State → State → Prop} {free : Addr → Prop} {Ts : List Cond} {own C : String} {b : Addr} {As rest : List Value} {g : JFrame}
theorem vx_runVX {hh : List (Nat × Nat × Nat × Nat)} (S : CallFix p m c cc nL s args Ts own) (hM : vx_Met l y ws rm Pc Qc XC mc ms free) (cw : vx_CVW R s args own C index y bytes maxL ret hh ws rm mc ms n) (hp : PreV s H C b Pc As)
    (hg : g.method = m) (hn : As.length = n) (hsize : g.locals.size = nL) (hstack : g.stack = As.reverse ++ .ref b :: rest) (hW : 2 * g.monitorRoom + (rest.map fun v => v.category).sum ≤ 8) (hdg : decode cc g.pc = .ok (.invokevirtual index, 3)) (hf : cells + mc ≤ R.cells ∧ slots + ms ≤ R.slots) :
    vx_Run p l e R s m args below meth c H locs cells slots mc ms g rest (Qc (Value.ref b :: As).toArray) XC free := by
  obtain ⟨⟨hrc, hrs, hfr, hlo, hws, hcw⟩, hcode, hini, hy, hlen, hl, hin, hse⟩ := cw
  have hK : vx_Back l R p e below s args y 3 8 (PreOf R mc ms Pc) (PostOf Qc mc ms free) (vx_Post XC mc ms free) := vx_backW (hh := hh) (bytes := bytes) (maxL := maxL) (ret := ret) hM hp.1 hrc hrs hfr hlo hws hcw (fun a' U hW => word_at hW (Or.inl (by first | rfl | simp [Cond.onTables, Cond.keeps, Cond.steady])) hini)
  obtain ⟨hx, hb, hml, ho, -⟩ := S
  obtain ⟨-, ⟨cellB, hcB, hoB, hclB⟩, hPc⟩ := hp
  intro T hT X
  rcases vx_callVX X hx (C := C) (hh := hh) (bytes := bytes) (maxL := maxL) (ret := ret) ho hl hin hse hcode hy hK (by rw [hT]; exact hcB) hoB hclB hg (hsize.trans hml.symm) (argsL := As) (rest := rest) (fun sig h => hn.trans (hlen sig h)) hstack hW (by rw [hb]; exact hdg)
    (fun vm₁ hW₁ => ⟨hf.1, hf.2, hPc (T.setVm vm₁) hT hW₁⟩) with ⟨v, vm₁, ⟨U', l2, c2, s2⟩, hW₁, X', ⟨g', mk, t, L, e1, e2, hq, h1, hL, h2, h3⟩, st⟩ | ⟨q, vm₁, ⟨U', l2, c2, s2⟩, hW₁, X', ⟨g', mk, t, L, E, ce, e1, e2, hq, hce, hcv, hcl, h1, hL, h2, h3⟩, st⟩
  · dsimp only [Pt.U, Pt.locs, Pt.cells, Pt.slots] at X' e1 e2 h1 h2 h3 st
    subst h1; subst h2; subst h3
    exact Or.inl ⟨v, (T.setVm vm₁).calling g' mk (Value.ref b :: As).toArray, t, U', L, hT, X', hL, e1, e2, hq, st⟩
  · dsimp only [Pt.U, Pt.locs, Pt.cells, Pt.slots] at X' e1 e2 h1 h2 h3 st hcl
    subst h1; subst h2; subst h3
    exact Or.inr ⟨q, (T.setVm vm₁).calling g' mk (Value.ref b :: As).toArray, t, U', L, E, ce, hT, X', hL, e1, e2, hq, hce, hcv, vx_cls hW₁ hcl, st⟩
theorem vx_runSX {hh : List (Nat × Nat × Nat × Nat)} (S : CallFix p m c cc nL s args Ts own) (hM : vx_Met l y ws rm Pc Qc XC mc ms free) (cw : vx_CSW R s args own index y bytes maxL ret hh ws rm mc ms n) (hp : PreS s H Pc As)
    (hg : g.method = m) (hn : As.length = n) (hsize : g.locals.size = nL) (hstack : g.stack = As.reverse ++ rest) (hW : 2 * g.monitorRoom + (rest.map fun v => v.category).sum ≤ 8) (hdg : decode cc g.pc = .ok (.invokestatic index, 3)) (hf : cells + mc ≤ R.cells ∧ slots + ms ≤ R.slots) :
    vx_Run p l e R s m args below meth c H locs cells slots mc ms g rest (Qc As.toArray) XC free := by
  obtain ⟨⟨hrc, hrs, hfr, hlo, hws, hcw⟩, hcode, hini, hy, hlen, hl, hstt⟩ := cw
  have hK : vx_Back l R p e below s args y 3 8 (PreOf R mc ms Pc) (PostOf Qc mc ms free) (vx_Post XC mc ms free) := vx_backW (hh := hh) (bytes := bytes) (maxL := maxL) (ret := ret) hM hp.1 hrc hrs hfr hlo hws hcw (fun a' U hW => word_at hW (Or.inl (by first | rfl | simp [Cond.onTables, Cond.keeps, Cond.steady])) hini)
  obtain ⟨hx, hb, hml, ho, -⟩ := S
  intro T hT X
  rcases vx_callSX X hx (hh := hh) (bytes := bytes) (maxL := maxL) (ret := ret) ho hl hstt hini hcode hy hK hg (hsize.trans hml.symm) (argsL := As) (rest := rest) (fun sig h => hn.trans (hlen sig h)) hstack hW (by rw [hb]; exact hdg)
    (fun vm₁ hW₁ => ⟨hf.1, hf.2, hp.2 (T.setVm vm₁) hT hW₁⟩) with ⟨v, vm₁, ⟨U', l2, c2, s2⟩, hW₁, X', ⟨g', mk, t, L, e1, e2, hq, h1, hL, h2, h3⟩, st⟩ | ⟨q, vm₁, ⟨U', l2, c2, s2⟩, hW₁, X', ⟨g', mk, t, L, E, ce, e1, e2, hq, hce, hcv, hcl, h1, hL, h2, h3⟩, st⟩
  · dsimp only [Pt.U, Pt.locs, Pt.cells, Pt.slots] at X' e1 e2 h1 h2 h3 st
    subst h1; subst h2; subst h3
    exact Or.inl ⟨v, (T.setVm vm₁).calling g' mk As.toArray, t, U', L, hT, X', hL, e1, e2, hq, st⟩
  · dsimp only [Pt.U, Pt.locs, Pt.cells, Pt.slots] at X' e1 e2 h1 h2 h3 st hcl
    subst h1; subst h2; subst h3
    exact Or.inr ⟨q, (T.setVm vm₁).calling g' mk As.toArray, t, U', L, E, ce, hT, X', hL, e1, e2, hq, hce, hcv, vx_cls hW₁ hcl, st⟩
end
end VXH
theorem vx_ofWH {l : Launch} {y : MethodName} {ws ws' : List Cond} {rm : Room} {Pc : Array Value → State → Prop} {Qc : Array Value → State → Outcome → State → Prop} {XC : String → State → State → Prop} {mc ms : Nat} {free : Addr → Prop} {cc : ByteArray} {maxL : Nat} {ret : Option FieldType} {hh : List (Nat × Nat × Nat × Nat)}
    (hy : plainName y.cls = true) (hw : ws = Cond.codeWith y cc maxL ret hh :: ws')
    (body : ∀ p e s m args below meth c s₁, BodyLoose p l y (headSpec ws rm) cc maxL ret e s m args below meth c s₁ → c.maxLocals = maxL → Pc args s →
      W p l e (headSpec ws rm).room s m args below meth c s.heap [] 0 0 (vx_MQ below Qc XC args s mc ms free) (entryFrame m args maxL)) : vx_Met l y ws rm Pc Qc XC mc ms free := by
  refine MetFree.of_bodyS (code := cc) (maxLocals := maxL) (ret := ret) hy ?_ ?_
  · intro args s m h hn
    obtain ⟨m9, meth, c, hn9, h1, h2, h3, h4, -, h5, h6, -⟩ := Cond.codeWith_spec (atoms_spec (ws := ws) h _ (by rw [hw]; exact List.mem_cons_self))
    cases hn.symm.trans hn9
    exact ⟨meth, c, h1, h2, h3, h4, h5, h6⟩
  · intro p e s m args below meth c s₁ B hml hP _
    have hh0 : s₁.heap = s.heap := by rw [B.state]; rfl
    obtain ⟨t, a1, o, b1, b2, b3⟩ := body p e s m args below meth c s₁ B hml hP s₁ hh0 (Stand.of_body B)
    exact ⟨t, o, a1, b1, b2, b3⟩
/-! ===== END ===== -/
end
section
-- ===== PART A: goes FIRST, ahead of the names: the tables' words, and 'selects' of the private methods out of them =====
/-- a private method of a class that the tables say can be made, by its rows of tables_1 -/
def lw_okq (q : MethodName × Nat) : Prop := (q.1.cls ≠ "java/lang/invoke/MethodHandle" ∧ q.1.cls ≠ "java/lang/invoke/VarHandle") ∧ Cond.instantiable q.1.cls q.2 ∈ tables_1 ∧ Cond.privateMethod q.1 ∈ tables_1 ∧ Cond.instanceMethod q.1 ∈ tables_1
theorem lw_p0 : lw_okq (⟨"LandUses", "bestSearch", "()LLandUses$Search;"⟩, 14) := ⟨⟨by decide +kernel, by decide +kernel⟩, List.mem_of_getElem? (i := 25) (by decide +kernel), List.mem_of_getElem? (i := 353) (by decide +kernel), List.mem_of_getElem? (i := 354) (by decide +kernel)⟩
theorem lw_p1 : lw_okq (⟨"LandUses$Search", "listSquares", "(J)V"⟩, 8) := ⟨⟨by decide +kernel, by decide +kernel⟩, List.mem_of_getElem? (i := 177) (by decide +kernel), List.mem_of_getElem? (i := 362) (by decide +kernel), List.mem_of_getElem? (i := 363) (by decide +kernel)⟩
theorem lw_p2 : lw_okq (⟨"LandUses$Search", "putFrom", "(III)V"⟩, 8) := ⟨⟨by decide +kernel, by decide +kernel⟩, List.mem_of_getElem? (i := 177) (by decide +kernel), List.mem_of_getElem? (i := 382) (by decide +kernel), List.mem_of_getElem? (i := 383) (by decide +kernel)⟩
theorem lw_p3 : lw_okq (⟨"LandUses$Search", "judge", "(II)V"⟩, 8) := ⟨⟨by decide +kernel, by decide +kernel⟩, List.mem_of_getElem? (i := 177) (by decide +kernel), List.mem_of_getElem? (i := 397) (by decide +kernel), List.mem_of_getElem? (i := 398) (by decide +kernel)⟩
theorem lw_p4 : lw_okq (⟨"LandUses$Line", "countNewPairs", "(JLLandUses$Uses;I)I"⟩, 7) := ⟨⟨by decide +kernel, by decide +kernel⟩, List.mem_of_getElem? (i := 131) (by decide +kernel), List.mem_of_getElem? (i := 410) (by decide +kernel), List.mem_of_getElem? (i := 411) (by decide +kernel)⟩
theorem lw_p5 : lw_okq (⟨"java/lang/Throwable", "fillInStackTrace", "(I)Ljava/lang/Throwable;"⟩, 6) := ⟨⟨by decide +kernel, by decide +kernel⟩, List.mem_of_getElem? (i := 511) (by decide +kernel), List.mem_of_getElem? (i := 509) (by decide +kernel), List.mem_of_getElem? (i := 510) (by decide +kernel)⟩
theorem lw_p6 : lw_okq (⟨"LandUses$Reader", "skipBlanks", "()V"⟩, 3) := ⟨⟨by decide +kernel, by decide +kernel⟩, List.mem_of_getElem? (i := 49) (by decide +kernel), List.mem_of_getElem? (i := 597) (by decide +kernel), List.mem_of_getElem? (i := 598) (by decide +kernel)⟩
theorem lw_p7 : lw_okq (⟨"LandUses$Reader", "readLine", "(LLandUses$Line;)V"⟩, 3) := ⟨⟨by decide +kernel, by decide +kernel⟩, List.mem_of_getElem? (i := 49) (by decide +kernel), List.mem_of_getElem? (i := 605) (by decide +kernel), List.mem_of_getElem? (i := 606) (by decide +kernel)⟩
theorem lw_p8 : lw_okq (⟨"LandUses$Reader", "skipWord", "(Ljava/lang/String;)Z"⟩, 3) := ⟨⟨by decide +kernel, by decide +kernel⟩, List.mem_of_getElem? (i := 49) (by decide +kernel), List.mem_of_getElem? (i := 610) (by decide +kernel), List.mem_of_getElem? (i := 611) (by decide +kernel)⟩
theorem lw_p9 : lw_okq (⟨"LandUses$Reader", "runLength", "(CC)I"⟩, 3) := ⟨⟨by decide +kernel, by decide +kernel⟩, List.mem_of_getElem? (i := 49) (by decide +kernel), List.mem_of_getElem? (i := 614) (by decide +kernel), List.mem_of_getElem? (i := 615) (by decide +kernel)⟩
theorem lw_p10 : lw_okq (⟨"LandUses$Reader", "readLaw", "(LLandUses$Line;)V"⟩, 3) := ⟨⟨by decide +kernel, by decide +kernel⟩, List.mem_of_getElem? (i := 49) (by decide +kernel), List.mem_of_getElem? (i := 666) (by decide +kernel), List.mem_of_getElem? (i := 667) (by decide +kernel)⟩
theorem lw_p11 : lw_okq (⟨"LandUses$Reader", "readUse", "()I"⟩, 3) := ⟨⟨by decide +kernel, by decide +kernel⟩, List.mem_of_getElem? (i := 49) (by decide +kernel), List.mem_of_getElem? (i := 670) (by decide +kernel), List.mem_of_getElem? (i := 671) (by decide +kernel)⟩
theorem lw_p12 : lw_okq (⟨"LandUses$Reader", "refuseNext", "()V"⟩, 3) := ⟨⟨by decide +kernel, by decide +kernel⟩, List.mem_of_getElem? (i := 49) (by decide +kernel), List.mem_of_getElem? (i := 679) (by decide +kernel), List.mem_of_getElem? (i := 680) (by decide +kernel)⟩
theorem lw_p13 : lw_okq (⟨"LandUses$Reader", "readNumber", "(II)I"⟩, 3) := ⟨⟨by decide +kernel, by decide +kernel⟩, List.mem_of_getElem? (i := 49) (by decide +kernel), List.mem_of_getElem? (i := 684) (by decide +kernel), List.mem_of_getElem? (i := 685) (by decide +kernel)⟩
theorem lw_p14 : lw_okq (⟨"LandUses$Reader", "readGrow", "(LLandUses$Line;)V"⟩, 3) := ⟨⟨by decide +kernel, by decide +kernel⟩, List.mem_of_getElem? (i := 49) (by decide +kernel), List.mem_of_getElem? (i := 692) (by decide +kernel), List.mem_of_getElem? (i := 693) (by decide +kernel)⟩
theorem lw_p15 : lw_okq (⟨"LandUses$Reader", "readWord", "(Ljava/lang/String;)V"⟩, 3) := ⟨⟨by decide +kernel, by decide +kernel⟩, List.mem_of_getElem? (i := 49) (by decide +kernel), List.mem_of_getElem? (i := 697) (by decide +kernel), List.mem_of_getElem? (i := 698) (by decide +kernel)⟩
def lw_privs_1 : List (MethodName × Nat) := [(⟨"LandUses", "bestSearch", "()LLandUses$Search;"⟩, 14), (⟨"LandUses$Search", "listSquares", "(J)V"⟩, 8), (⟨"LandUses$Search", "putFrom", "(III)V"⟩, 8), (⟨"LandUses$Search", "judge", "(II)V"⟩, 8), (⟨"LandUses$Line", "countNewPairs", "(JLLandUses$Uses;I)I"⟩, 7), (⟨"java/lang/Throwable", "fillInStackTrace", "(I)Ljava/lang/Throwable;"⟩, 6), (⟨"LandUses$Reader", "skipBlanks", "()V"⟩, 3), (⟨"LandUses$Reader", "readLine", "(LLandUses$Line;)V"⟩, 3), (⟨"LandUses$Reader", "skipWord", "(Ljava/lang/String;)Z"⟩, 3), (⟨"LandUses$Reader", "runLength", "(CC)I"⟩, 3), (⟨"LandUses$Reader", "readLaw", "(LLandUses$Line;)V"⟩, 3), (⟨"LandUses$Reader", "readUse", "()I"⟩, 3), (⟨"LandUses$Reader", "refuseNext", "()V"⟩, 3), (⟨"LandUses$Reader", "readNumber", "(II)I"⟩, 3), (⟨"LandUses$Reader", "readGrow", "(LLandUses$Line;)V"⟩, 3), (⟨"LandUses$Reader", "readWord", "(Ljava/lang/String;)V"⟩, 3)]
theorem lw_r1 : ∀ q ∈ lw_privs_1, lw_okq q := List.forall_mem_cons.mpr ⟨lw_p0, List.forall_mem_cons.mpr ⟨lw_p1, List.forall_mem_cons.mpr ⟨lw_p2, List.forall_mem_cons.mpr ⟨lw_p3, List.forall_mem_cons.mpr ⟨lw_p4, List.forall_mem_cons.mpr ⟨lw_p5, List.forall_mem_cons.mpr ⟨lw_p6, List.forall_mem_cons.mpr ⟨lw_p7, List.forall_mem_cons.mpr ⟨lw_p8, List.forall_mem_cons.mpr ⟨lw_p9, List.forall_mem_cons.mpr ⟨lw_p10, List.forall_mem_cons.mpr ⟨lw_p11, List.forall_mem_cons.mpr ⟨lw_p12, List.forall_mem_cons.mpr ⟨lw_p13, List.forall_mem_cons.mpr ⟨lw_p14, List.forall_mem_cons.mpr ⟨lw_p15, fun _ h => absurd h List.not_mem_nil⟩⟩⟩⟩⟩⟩⟩⟩⟩⟩⟩⟩⟩⟩⟩⟩
theorem lw_p16 : lw_okq (⟨"LandUses$Reader", "readWorth", "(LLandUses$Line;)V"⟩, 3) := ⟨⟨by decide +kernel, by decide +kernel⟩, List.mem_of_getElem? (i := 49) (by decide +kernel), List.mem_of_getElem? (i := 703) (by decide +kernel), List.mem_of_getElem? (i := 704) (by decide +kernel)⟩
theorem lw_p17 : lw_okq (⟨"LandUses$Reader", "readSemicolon", "()Z"⟩, 3) := ⟨⟨by decide +kernel, by decide +kernel⟩, List.mem_of_getElem? (i := 49) (by decide +kernel), List.mem_of_getElem? (i := 709) (by decide +kernel), List.mem_of_getElem? (i := 710) (by decide +kernel)⟩
theorem lw_p18 : lw_okq (⟨"LandUses", "checkLine", "(I)V"⟩, 14) := ⟨⟨by decide +kernel, by decide +kernel⟩, List.mem_of_getElem? (i := 25) (by decide +kernel), List.mem_of_getElem? (i := 721) (by decide +kernel), List.mem_of_getElem? (i := 722) (by decide +kernel)⟩
theorem lw_p19 : lw_okq (⟨"LandUses", "planOrLand", "(I)LLandUses$Uses;"⟩, 14) := ⟨⟨by decide +kernel, by decide +kernel⟩, List.mem_of_getElem? (i := 25) (by decide +kernel), List.mem_of_getElem? (i := 815) (by decide +kernel), List.mem_of_getElem? (i := 816) (by decide +kernel)⟩
theorem lw_p20 : lw_okq (⟨"LandUses", "checkPlan", "(I)V"⟩, 14) := ⟨⟨by decide +kernel, by decide +kernel⟩, List.mem_of_getElem? (i := 25) (by decide +kernel), List.mem_of_getElem? (i := 819) (by decide +kernel), List.mem_of_getElem? (i := 820) (by decide +kernel)⟩
theorem lw_p21 : lw_okq (⟨"LandUsesModel", "throwsIf", "(ZI)Z"⟩, 33) := ⟨⟨by decide +kernel, by decide +kernel⟩, List.mem_of_getElem? (i := 835) (by decide +kernel), List.mem_of_getElem? (i := 956) (by decide +kernel), List.mem_of_getElem? (i := 957) (by decide +kernel)⟩
theorem lw_p22 : lw_okq (⟨"LandUsesModel", "readAll", "()I"⟩, 33) := ⟨⟨by decide +kernel, by decide +kernel⟩, List.mem_of_getElem? (i := 835) (by decide +kernel), List.mem_of_getElem? (i := 989) (by decide +kernel), List.mem_of_getElem? (i := 990) (by decide +kernel)⟩
theorem lw_p23 : lw_okq (⟨"LandUsesModel", "blanks", "()V"⟩, 33) := ⟨⟨by decide +kernel, by decide +kernel⟩, List.mem_of_getElem? (i := 835) (by decide +kernel), List.mem_of_getElem? (i := 993) (by decide +kernel), List.mem_of_getElem? (i := 994) (by decide +kernel)⟩
theorem lw_p24 : lw_okq (⟨"LandUsesModel", "isAt", "(II)Z"⟩, 33) := ⟨⟨by decide +kernel, by decide +kernel⟩, List.mem_of_getElem? (i := 835) (by decide +kernel), List.mem_of_getElem? (i := 997) (by decide +kernel), List.mem_of_getElem? (i := 998) (by decide +kernel)⟩
theorem lw_p25 : lw_okq (⟨"LandUsesModel", "readLine", "(I)Z"⟩, 33) := ⟨⟨by decide +kernel, by decide +kernel⟩, List.mem_of_getElem? (i := 835) (by decide +kernel), List.mem_of_getElem? (i := 1001) (by decide +kernel), List.mem_of_getElem? (i := 1002) (by decide +kernel)⟩
theorem lw_p26 : lw_okq (⟨"LandUsesModel", "word", "()V"⟩, 33) := ⟨⟨by decide +kernel, by decide +kernel⟩, List.mem_of_getElem? (i := 835) (by decide +kernel), List.mem_of_getElem? (i := 1005) (by decide +kernel), List.mem_of_getElem? (i := 1006) (by decide +kernel)⟩
theorem lw_p27 : lw_okq (⟨"LandUsesModel", "isWord", "(Ljava/lang/String;)Z"⟩, 33) := ⟨⟨by decide +kernel, by decide +kernel⟩, List.mem_of_getElem? (i := 835) (by decide +kernel), List.mem_of_getElem? (i := 1010) (by decide +kernel), List.mem_of_getElem? (i := 1011) (by decide +kernel)⟩
theorem lw_p28 : lw_okq (⟨"LandUsesModel", "readLaw", "(I)Z"⟩, 33) := ⟨⟨by decide +kernel, by decide +kernel⟩, List.mem_of_getElem? (i := 835) (by decide +kernel), List.mem_of_getElem? (i := 1016) (by decide +kernel), List.mem_of_getElem? (i := 1017) (by decide +kernel)⟩
theorem lw_p29 : lw_okq (⟨"LandUsesModel", "readUse", "()I"⟩, 33) := ⟨⟨by decide +kernel, by decide +kernel⟩, List.mem_of_getElem? (i := 835) (by decide +kernel), List.mem_of_getElem? (i := 1020) (by decide +kernel), List.mem_of_getElem? (i := 1021) (by decide +kernel)⟩
theorem lw_p30 : lw_okq (⟨"LandUsesModel", "useOf", "()I"⟩, 33) := ⟨⟨by decide +kernel, by decide +kernel⟩, List.mem_of_getElem? (i := 835) (by decide +kernel), List.mem_of_getElem? (i := 1024) (by decide +kernel), List.mem_of_getElem? (i := 1025) (by decide +kernel)⟩
theorem lw_p31 : lw_okq (⟨"LandUsesModel", "number", "(II)I"⟩, 33) := ⟨⟨by decide +kernel, by decide +kernel⟩, List.mem_of_getElem? (i := 835) (by decide +kernel), List.mem_of_getElem? (i := 1035) (by decide +kernel), List.mem_of_getElem? (i := 1036) (by decide +kernel)⟩
def lw_privs_2 : List (MethodName × Nat) := [(⟨"LandUses$Reader", "readWorth", "(LLandUses$Line;)V"⟩, 3), (⟨"LandUses$Reader", "readSemicolon", "()Z"⟩, 3), (⟨"LandUses", "checkLine", "(I)V"⟩, 14), (⟨"LandUses", "planOrLand", "(I)LLandUses$Uses;"⟩, 14), (⟨"LandUses", "checkPlan", "(I)V"⟩, 14), (⟨"LandUsesModel", "throwsIf", "(ZI)Z"⟩, 33), (⟨"LandUsesModel", "readAll", "()I"⟩, 33), (⟨"LandUsesModel", "blanks", "()V"⟩, 33), (⟨"LandUsesModel", "isAt", "(II)Z"⟩, 33), (⟨"LandUsesModel", "readLine", "(I)Z"⟩, 33), (⟨"LandUsesModel", "word", "()V"⟩, 33), (⟨"LandUsesModel", "isWord", "(Ljava/lang/String;)Z"⟩, 33), (⟨"LandUsesModel", "readLaw", "(I)Z"⟩, 33), (⟨"LandUsesModel", "readUse", "()I"⟩, 33), (⟨"LandUsesModel", "useOf", "()I"⟩, 33), (⟨"LandUsesModel", "number", "(II)I"⟩, 33)]
theorem lw_r2 : ∀ q ∈ lw_privs_2, lw_okq q := List.forall_mem_cons.mpr ⟨lw_p16, List.forall_mem_cons.mpr ⟨lw_p17, List.forall_mem_cons.mpr ⟨lw_p18, List.forall_mem_cons.mpr ⟨lw_p19, List.forall_mem_cons.mpr ⟨lw_p20, List.forall_mem_cons.mpr ⟨lw_p21, List.forall_mem_cons.mpr ⟨lw_p22, List.forall_mem_cons.mpr ⟨lw_p23, List.forall_mem_cons.mpr ⟨lw_p24, List.forall_mem_cons.mpr ⟨lw_p25, List.forall_mem_cons.mpr ⟨lw_p26, List.forall_mem_cons.mpr ⟨lw_p27, List.forall_mem_cons.mpr ⟨lw_p28, List.forall_mem_cons.mpr ⟨lw_p29, List.forall_mem_cons.mpr ⟨lw_p30, List.forall_mem_cons.mpr ⟨lw_p31, fun _ h => absurd h List.not_mem_nil⟩⟩⟩⟩⟩⟩⟩⟩⟩⟩⟩⟩⟩⟩⟩⟩
theorem lw_p32 : lw_okq (⟨"LandUsesModel", "readGrow", "(I)Z"⟩, 33) := ⟨⟨by decide +kernel, by decide +kernel⟩, List.mem_of_getElem? (i := 835) (by decide +kernel), List.mem_of_getElem? (i := 1042) (by decide +kernel), List.mem_of_getElem? (i := 1043) (by decide +kernel)⟩
theorem lw_p33 : lw_okq (⟨"LandUsesModel", "need", "(Ljava/lang/String;)Z"⟩, 33) := ⟨⟨by decide +kernel, by decide +kernel⟩, List.mem_of_getElem? (i := 835) (by decide +kernel), List.mem_of_getElem? (i := 1047) (by decide +kernel), List.mem_of_getElem? (i := 1048) (by decide +kernel)⟩
theorem lw_p34 : lw_okq (⟨"LandUsesModel", "readWorth", "(I)Z"⟩, 33) := ⟨⟨by decide +kernel, by decide +kernel⟩, List.mem_of_getElem? (i := 835) (by decide +kernel), List.mem_of_getElem? (i := 1053) (by decide +kernel), List.mem_of_getElem? (i := 1054) (by decide +kernel)⟩
theorem lw_p35 : lw_okq (⟨"LandUsesModel", "worthOf", "()I"⟩, 33) := ⟨⟨by decide +kernel, by decide +kernel⟩, List.mem_of_getElem? (i := 835) (by decide +kernel), List.mem_of_getElem? (i := 1067) (by decide +kernel), List.mem_of_getElem? (i := 1068) (by decide +kernel)⟩
theorem lw_p36 : lw_okq (⟨"LandUsesModel", "addsOf", "(I)I"⟩, 33) := ⟨⟨by decide +kernel, by decide +kernel⟩, List.mem_of_getElem? (i := 835) (by decide +kernel), List.mem_of_getElem? (i := 1071) (by decide +kernel), List.mem_of_getElem? (i := 1072) (by decide +kernel)⟩
theorem lw_p37 : lw_okq (⟨"LandUsesModel", "alone", "(III)I"⟩, 33) := ⟨⟨by decide +kernel, by decide +kernel⟩, List.mem_of_getElem? (i := 835) (by decide +kernel), List.mem_of_getElem? (i := 1075) (by decide +kernel), List.mem_of_getElem? (i := 1076) (by decide +kernel)⟩
theorem lw_p38 : lw_okq (⟨"LandUsesModel", "pair", "(IIIII)I"⟩, 33) := ⟨⟨by decide +kernel, by decide +kernel⟩, List.mem_of_getElem? (i := 835) (by decide +kernel), List.mem_of_getElem? (i := 1079) (by decide +kernel), List.mem_of_getElem? (i := 1080) (by decide +kernel)⟩
theorem lw_p39 : lw_okq (⟨"LandUsesModel", "holds", "(I)Z"⟩, 33) := ⟨⟨by decide +kernel, by decide +kernel⟩, List.mem_of_getElem? (i := 835) (by decide +kernel), List.mem_of_getElem? (i := 1097) (by decide +kernel), List.mem_of_getElem? (i := 1098) (by decide +kernel)⟩
theorem lw_p40 : lw_okq (⟨"LandUsesModel", "areApart", "(I)Z"⟩, 33) := ⟨⟨by decide +kernel, by decide +kernel⟩, List.mem_of_getElem? (i := 835) (by decide +kernel), List.mem_of_getElem? (i := 1101) (by decide +kernel), List.mem_of_getElem? (i := 1102) (by decide +kernel)⟩
theorem lw_p41 : lw_okq (⟨"LandUsesModel", "countOf", "(I)I"⟩, 33) := ⟨⟨by decide +kernel, by decide +kernel⟩, List.mem_of_getElem? (i := 835) (by decide +kernel), List.mem_of_getElem? (i := 1105) (by decide +kernel), List.mem_of_getElem? (i := 1106) (by decide +kernel)⟩
theorem lw_p42 : lw_okq (⟨"LandUsesModel", "areJoined", "(I)Z"⟩, 33) := ⟨⟨by decide +kernel, by decide +kernel⟩, List.mem_of_getElem? (i := 835) (by decide +kernel), List.mem_of_getElem? (i := 1109) (by decide +kernel), List.mem_of_getElem? (i := 1110) (by decide +kernel)⟩
theorem lw_p43 : lw_okq (⟨"LandUsesModel", "grows", "(II)Z"⟩, 33) := ⟨⟨by decide +kernel, by decide +kernel⟩, List.mem_of_getElem? (i := 835) (by decide +kernel), List.mem_of_getElem? (i := 1120) (by decide +kernel), List.mem_of_getElem? (i := 1121) (by decide +kernel)⟩
theorem lw_p44 : lw_okq (⟨"LandUsesModel", "seeks", "(I)Z"⟩, 33) := ⟨⟨by decide +kernel, by decide +kernel⟩, List.mem_of_getElem? (i := 835) (by decide +kernel), List.mem_of_getElem? (i := 1128) (by decide +kernel), List.mem_of_getElem? (i := 1129) (by decide +kernel)⟩
theorem lw_p45 : lw_okq (⟨"LandUsesModel", "weighs", "()V"⟩, 33) := ⟨⟨by decide +kernel, by decide +kernel⟩, List.mem_of_getElem? (i := 835) (by decide +kernel), List.mem_of_getElem? (i := 1132) (by decide +kernel), List.mem_of_getElem? (i := 1133) (by decide +kernel)⟩
theorem lw_p46 : lw_okq (⟨"LandUsesModel", "others", "()I"⟩, 33) := ⟨⟨by decide +kernel, by decide +kernel⟩, List.mem_of_getElem? (i := 835) (by decide +kernel), List.mem_of_getElem? (i := 1139) (by decide +kernel), List.mem_of_getElem? (i := 1140) (by decide +kernel)⟩
theorem lw_p47 : lw_okq (⟨"LandUsesModel", "allHold", "(I)Z"⟩, 33) := ⟨⟨by decide +kernel, by decide +kernel⟩, List.mem_of_getElem? (i := 835) (by decide +kernel), List.mem_of_getElem? (i := 1143) (by decide +kernel), List.mem_of_getElem? (i := 1144) (by decide +kernel)⟩
def lw_privs_3 : List (MethodName × Nat) := [(⟨"LandUsesModel", "readGrow", "(I)Z"⟩, 33), (⟨"LandUsesModel", "need", "(Ljava/lang/String;)Z"⟩, 33), (⟨"LandUsesModel", "readWorth", "(I)Z"⟩, 33), (⟨"LandUsesModel", "worthOf", "()I"⟩, 33), (⟨"LandUsesModel", "addsOf", "(I)I"⟩, 33), (⟨"LandUsesModel", "alone", "(III)I"⟩, 33), (⟨"LandUsesModel", "pair", "(IIIII)I"⟩, 33), (⟨"LandUsesModel", "holds", "(I)Z"⟩, 33), (⟨"LandUsesModel", "areApart", "(I)Z"⟩, 33), (⟨"LandUsesModel", "countOf", "(I)I"⟩, 33), (⟨"LandUsesModel", "areJoined", "(I)Z"⟩, 33), (⟨"LandUsesModel", "grows", "(II)Z"⟩, 33), (⟨"LandUsesModel", "seeks", "(I)Z"⟩, 33), (⟨"LandUsesModel", "weighs", "()V"⟩, 33), (⟨"LandUsesModel", "others", "()I"⟩, 33), (⟨"LandUsesModel", "allHold", "(I)Z"⟩, 33)]
theorem lw_r3 : ∀ q ∈ lw_privs_3, lw_okq q := List.forall_mem_cons.mpr ⟨lw_p32, List.forall_mem_cons.mpr ⟨lw_p33, List.forall_mem_cons.mpr ⟨lw_p34, List.forall_mem_cons.mpr ⟨lw_p35, List.forall_mem_cons.mpr ⟨lw_p36, List.forall_mem_cons.mpr ⟨lw_p37, List.forall_mem_cons.mpr ⟨lw_p38, List.forall_mem_cons.mpr ⟨lw_p39, List.forall_mem_cons.mpr ⟨lw_p40, List.forall_mem_cons.mpr ⟨lw_p41, List.forall_mem_cons.mpr ⟨lw_p42, List.forall_mem_cons.mpr ⟨lw_p43, List.forall_mem_cons.mpr ⟨lw_p44, List.forall_mem_cons.mpr ⟨lw_p45, List.forall_mem_cons.mpr ⟨lw_p46, List.forall_mem_cons.mpr ⟨lw_p47, fun _ h => absurd h List.not_mem_nil⟩⟩⟩⟩⟩⟩⟩⟩⟩⟩⟩⟩⟩⟩⟩⟩
theorem lw_p48 : lw_okq (⟨"LandUsesModel", "isLaw", "(I)Z"⟩, 33) := ⟨⟨by decide +kernel, by decide +kernel⟩, List.mem_of_getElem? (i := 835) (by decide +kernel), List.mem_of_getElem? (i := 1163) (by decide +kernel), List.mem_of_getElem? (i := 1164) (by decide +kernel)⟩
theorem lw_p49 : lw_okq (⟨"LandUsesModel", "useIn", "(II)I"⟩, 33) := ⟨⟨by decide +kernel, by decide +kernel⟩, List.mem_of_getElem? (i := 835) (by decide +kernel), List.mem_of_getElem? (i := 1179) (by decide +kernel), List.mem_of_getElem? (i := 1180) (by decide +kernel)⟩
def lw_privs_4 : List (MethodName × Nat) := [(⟨"LandUsesModel", "isLaw", "(I)Z"⟩, 33), (⟨"LandUsesModel", "useIn", "(II)I"⟩, 33)]
theorem lw_r4 : ∀ q ∈ lw_privs_4, lw_okq q := List.forall_mem_cons.mpr ⟨lw_p48, List.forall_mem_cons.mpr ⟨lw_p49, fun _ h => absurd h List.not_mem_nil⟩⟩
def lw_privs : List (MethodName × Nat) := lw_privs_1 ++ (lw_privs_2 ++ (lw_privs_3 ++ (lw_privs_4)))
def lw_tbl : List Cond := k2_sels lw_privs ++ tables_1
theorem lw_privs_ok : ∀ q ∈ lw_privs, lw_okq q := by
  show ∀ q ∈ lw_privs_1 ++ (lw_privs_2 ++ (lw_privs_3 ++ (lw_privs_4))), lw_okq q
  exact List.forall_mem_append.mpr ⟨lw_r1, List.forall_mem_append.mpr ⟨lw_r2, List.forall_mem_append.mpr ⟨lw_r3, lw_r4⟩⟩⟩
def RX0 : String := "LandUses$Book"
def TX0 : u_T := fun k => match k with
  | 0 => ("LandUses$Book", "rows", "[LLandUses$Line;", true)
  | _ => ("LandUses$Book", "count", "I", false)
def tyX0 : Nat → FieldType := fun k => match k with
  | 0 => .array (.object "LandUses$Line")
  | _ => .int
abbrev wsX00 : List Cond := u_ws RX0 TX0 2
theorem nmX0 : ∀ a, a < 2 → ∀ b, b < 2 → a ≠ b → (TX0 a).2.1 ≠ (TX0 b).2.1 := by decide +kernel
theorem tyX0_ok : ∀ k, k < 2 → parseFieldDescriptor (TX0 k).2.2.1 = some (tyX0 k) := by decide +kernel
abbrev cX0_init : ByteArray := prog_2_method_1_code
def yX0_init : MethodName := ⟨RX0, "<init>", "()V"⟩
abbrev cX0_countLaws : ByteArray := prog_2_method_2_code
def yX0_countLaws : MethodName := ⟨RX0, "countLaws", "()I"⟩
abbrev cX0_worthOf : ByteArray := prog_2_method_3_code
def yX0_worthOf : MethodName := ⟨RX0, "worthOf", "(LLandUses$Land;)I"⟩
abbrev cX0_worthOfPutting : ByteArray := prog_2_method_4_code
def yX0_worthOfPutting : MethodName := ⟨RX0, "worthOfPutting", "(LLandUses$Land;II)I"⟩
abbrev cX0_firstBroken : ByteArray := prog_2_method_5_code
def yX0_firstBroken : MethodName := ⟨RX0, "firstBroken", "(LLandUses$Land;)I"⟩
abbrev cX0_brokenByPair : ByteArray := prog_2_method_6_code
def yX0_brokenByPair : MethodName := ⟨RX0, "brokenByPair", "(LLandUses$Land;)I"⟩
abbrev cX0_brokenByPutting : ByteArray := prog_2_method_7_code
def yX0_brokenByPutting : MethodName := ⟨RX0, "brokenByPutting", "(LLandUses$Land;II)I"⟩
abbrev cX0_brokenByWhole : ByteArray := prog_2_method_8_code
def yX0_brokenByWhole : MethodName := ⟨RX0, "brokenByWhole", "(LLandUses$Land;)I"⟩
abbrev cX0_growInto : ByteArray := prog_2_method_9_code
def yX0_growInto : MethodName := ⟨RX0, "growInto", "(LLandUses$Uses;LLandUses$Land;)V"⟩
def RX1 : String := "LandUses$Land"
def TX1 : u_T := fun k => match k with
  | 0 => ("LandUses$Land", "uses", "LLandUses$Uses;", true)
  | 1 => ("LandUses$Land", "soils", "[I", true)
  | _ => ("LandUses$Land", "around", "[[J", true)
def tyX1 : Nat → FieldType := fun k => match k with
  | 0 => .object "LandUses$Uses"
  | 1 => .array .int
  | _ => .array (.array .long)
abbrev wsX10 : List Cond := u_ws RX1 TX1 3
theorem nmX1 : ∀ a, a < 3 → ∀ b, b < 3 → a ≠ b → (TX1 a).2.1 ≠ (TX1 b).2.1 := by decide +kernel
theorem tyX1_ok : ∀ k, k < 3 → parseFieldDescriptor (TX1 k).2.2.1 = some (tyX1 k) := by decide +kernel
abbrev cX1_init : ByteArray := prog_3_method_1_code
def yX1_init : MethodName := ⟨RX1, "<init>", "()V"⟩
abbrev cX1_init_ : ByteArray := prog_3_method_2_code
def yX1_init_ : MethodName := ⟨RX1, "<init>", "(LLandUses$Land;)V"⟩
abbrev cX1_putSoil : ByteArray := prog_3_method_3_code
def yX1_putSoil : MethodName := ⟨RX1, "putSoil", "(JI)V"⟩
abbrev cX1_countAround : ByteArray := prog_3_method_4_code
def yX1_countAround : MethodName := ⟨RX1, "countAround", "(III)I"⟩
abbrev cX1_countPairs : ByteArray := prog_3_method_5_code
def yX1_countPairs : MethodName := ⟨RX1, "countPairs", "(III)I"⟩
abbrev cX1_countOnSoil : ByteArray := prog_3_method_6_code
def yX1_countOnSoil : MethodName := ⟨RX1, "countOnSoil", "(II)I"⟩
def RX2 : String := "LandUses$Line"
def TX2 : u_T := fun k => match k with
  | 0 => ("LandUses$Line", "kind", "I", false)
  | 1 => ("LandUses$Line", "use", "I", false)
  | 2 => ("LandUses$Line", "otherUse", "I", false)
  | 3 => ("LandUses$Line", "grownUse", "I", false)
  | 4 => ("LandUses$Line", "steps", "I", false)
  | 5 => ("LandUses$Line", "leastSoil", "I", false)
  | _ => ("LandUses$Line", "number", "I", false)
def tyX2 : Nat → FieldType := fun k => match k with
  | 0 => .int
  | 1 => .int
  | 2 => .int
  | 3 => .int
  | 4 => .int
  | 5 => .int
  | _ => .int
abbrev wsX20 : List Cond := u_ws RX2 TX2 7
theorem nmX2 : ∀ a, a < 7 → ∀ b, b < 7 → a ≠ b → (TX2 a).2.1 ≠ (TX2 b).2.1 := by decide +kernel
theorem tyX2_ok : ∀ k, k < 7 → parseFieldDescriptor (TX2 k).2.2.1 = some (tyX2 k) := by decide +kernel
abbrev cX2_init : ByteArray := prog_4_method_1_code
def yX2_init : MethodName := ⟨RX2, "<init>", "()V"⟩
abbrev cX2_isLaw : ByteArray := prog_4_method_2_code
def yX2_isLaw : MethodName := ⟨RX2, "isLaw", "()Z"⟩
abbrev cX2_worthOf : ByteArray := prog_4_method_3_code
def yX2_worthOf : MethodName := ⟨RX2, "worthOf", "(LLandUses$Land;)I"⟩
abbrev cX2_worthOfPutting : ByteArray := prog_4_method_4_code
def yX2_worthOfPutting : MethodName := ⟨RX2, "worthOfPutting", "(LLandUses$Land;II)I"⟩
abbrev cX2_isBroken : ByteArray := prog_4_method_5_code
def yX2_isBroken : MethodName := ⟨RX2, "isBroken", "(LLandUses$Land;)Z"⟩
abbrev cX2_isBrokenByPair : ByteArray := prog_4_method_6_code
def yX2_isBrokenByPair : MethodName := ⟨RX2, "isBrokenByPair", "(LLandUses$Land;)Z"⟩
abbrev cX2_isBrokenByPutting : ByteArray := prog_4_method_7_code
def yX2_isBrokenByPutting : MethodName := ⟨RX2, "isBrokenByPutting", "(LLandUses$Land;II)Z"⟩
abbrev cX2_countNewPairs : ByteArray := prog_4_method_8_code
def yX2_countNewPairs : MethodName := ⟨RX2, "countNewPairs", "(JLLandUses$Uses;I)I"⟩
abbrev cX2_isBrokenByWhole : ByteArray := prog_4_method_9_code
def yX2_isBrokenByWhole : MethodName := ⟨RX2, "isBrokenByWhole", "(LLandUses$Land;)Z"⟩
abbrev cX2_growsOn : ByteArray := prog_4_method_10_code
def yX2_growsOn : MethodName := ⟨RX2, "growsOn", "(LLandUses$Land;I)Z"⟩
def RX3 : String := "LandUses$Reader"
def TX3 : u_T := fun k => match k with
  | 0 => ("LandUses$Reader", "tape", "LLandUses$Tape;", true)
  | 1 => ("LandUses$Reader", "place", "I", false)
  | _ => ("LandUses$Reader", "wrongPlace", "I", false)
def tyX3 : Nat → FieldType := fun k => match k with
  | 0 => .object "LandUses$Tape"
  | 1 => .int
  | _ => .int
abbrev wsX30 : List Cond := u_ws RX3 TX3 3
theorem nmX3 : ∀ a, a < 3 → ∀ b, b < 3 → a ≠ b → (TX3 a).2.1 ≠ (TX3 b).2.1 := by decide +kernel
theorem tyX3_ok : ∀ k, k < 3 → parseFieldDescriptor (TX3 k).2.2.1 = some (tyX3 k) := by decide +kernel
abbrev cX3_init : ByteArray := prog_5_method_1_code
def yX3_init : MethodName := ⟨RX3, "<init>", "(LLandUses$Tape;)V"⟩
abbrev cX3_readInto : ByteArray := prog_5_method_2_code
def yX3_readInto : MethodName := ⟨RX3, "readInto", "(LLandUses$Book;)I"⟩
abbrev cX3_readSemicolon : ByteArray := prog_5_method_3_code
def yX3_readSemicolon : MethodName := ⟨RX3, "readSemicolon", "()Z"⟩
abbrev cX3_readLine : ByteArray := prog_5_method_4_code
def yX3_readLine : MethodName := ⟨RX3, "readLine", "(LLandUses$Line;)V"⟩
abbrev cX3_readWorth : ByteArray := prog_5_method_5_code
def yX3_readWorth : MethodName := ⟨RX3, "readWorth", "(LLandUses$Line;)V"⟩
abbrev cX3_readLaw : ByteArray := prog_5_method_6_code
def yX3_readLaw : MethodName := ⟨RX3, "readLaw", "(LLandUses$Line;)V"⟩
abbrev cX3_readGrow : ByteArray := prog_5_method_7_code
def yX3_readGrow : MethodName := ⟨RX3, "readGrow", "(LLandUses$Line;)V"⟩
abbrev cX3_readUse : ByteArray := prog_5_method_8_code
def yX3_readUse : MethodName := ⟨RX3, "readUse", "()I"⟩
abbrev cX3_readWord : ByteArray := prog_5_method_9_code
def yX3_readWord : MethodName := ⟨RX3, "readWord", "(Ljava/lang/String;)V"⟩
abbrev cX3_readNumber : ByteArray := prog_5_method_10_code
def yX3_readNumber : MethodName := ⟨RX3, "readNumber", "(II)I"⟩
abbrev cX3_skipWord : ByteArray := prog_5_method_11_code
def yX3_skipWord : MethodName := ⟨RX3, "skipWord", "(Ljava/lang/String;)Z"⟩
abbrev cX3_refuseNext : ByteArray := prog_5_method_12_code
def yX3_refuseNext : MethodName := ⟨RX3, "refuseNext", "()V"⟩
abbrev cX3_skipBlanks : ByteArray := prog_5_method_13_code
def yX3_skipBlanks : MethodName := ⟨RX3, "skipBlanks", "()V"⟩
abbrev cX3_runLength : ByteArray := prog_5_method_14_code
def yX3_runLength : MethodName := ⟨RX3, "runLength", "(CC)I"⟩
def RX4 : String := "LandUses$Search"
def TX4 : u_T := fun k => match k with
  | 0 => ("LandUses$Search", "trial", "LLandUses$Land;", true)
  | 1 => ("LandUses$Search", "squares", "[I", true)
  | 2 => ("LandUses$Search", "bestUses", "LLandUses$Uses;", true)
  | 3 => ("LandUses$Search", "worthBreaking", "[I", true)
  | 4 => ("LandUses$Search", "lines", "LLandUses$Book;", false)
  | 5 => ("LandUses$Search", "squareCount", "I", false)
  | 6 => ("LandUses$Search", "found", "Z", false)
  | _ => ("LandUses$Search", "bestWorth", "I", false)
def tyX4 : Nat → FieldType := fun k => match k with
  | 0 => .object "LandUses$Land"
  | 1 => .array .int
  | 2 => .object "LandUses$Uses"
  | 3 => .array .int
  | 4 => .object "LandUses$Book"
  | 5 => .int
  | 6 => .boolean
  | _ => .int
abbrev wsX40 : List Cond := u_ws RX4 TX4 8
theorem nmX4 : ∀ a, a < 8 → ∀ b, b < 8 → a ≠ b → (TX4 a).2.1 ≠ (TX4 b).2.1 := by decide +kernel
theorem tyX4_ok : ∀ k, k < 8 → parseFieldDescriptor (TX4 k).2.2.1 = some (tyX4 k) := by decide +kernel
abbrev cX4_init : ByteArray := prog_6_method_1_code
def yX4_init : MethodName := ⟨RX4, "<init>", "(LLandUses$Land;LLandUses$Book;)V"⟩
abbrev cX4_run : ByteArray := prog_6_method_2_code
def yX4_run : MethodName := ⟨RX4, "run", "(LLandUses$Land;LLandUses$Book;J)V"⟩
abbrev cX4_listSquares : ByteArray := prog_6_method_3_code
def yX4_listSquares : MethodName := ⟨RX4, "listSquares", "(J)V"⟩
abbrev cX4_putFrom : ByteArray := prog_6_method_4_code
def yX4_putFrom : MethodName := ⟨RX4, "putFrom", "(III)V"⟩
abbrev cX4_judge : ByteArray := prog_6_method_5_code
def yX4_judge : MethodName := ⟨RX4, "judge", "(II)V"⟩
def RX5 : String := "LandUses$Squares"
def TX5 : u_T := fun k => match k with
  | _ => ("", "", "", false)
def tyX5 : Nat → FieldType := fun k => match k with
  | _ => .int
abbrev wsX50 : List Cond := u_ws RX5 TX5 0
theorem nmX5 : ∀ a, a < 0 → ∀ b, b < 0 → a ≠ b → (TX5 a).2.1 ≠ (TX5 b).2.1 := by decide +kernel
theorem tyX5_ok : ∀ k, k < 0 → parseFieldDescriptor (TX5 k).2.2.1 = some (tyX5 k) := by decide +kernel
abbrev cX5_only : ByteArray := prog_7_method_2_code
def yX5_only : MethodName := ⟨RX5, "only", "(I)J"⟩
abbrev cX5_has : ByteArray := prog_7_method_3_code
def yX5_has : MethodName := ⟨RX5, "has", "(JI)Z"⟩
abbrev cX5_rectangle : ByteArray := prog_7_method_4_code
def yX5_rectangle : MethodName := ⟨RX5, "rectangle", "(II)J"⟩
abbrev cX5_around : ByteArray := prog_7_method_5_code
def yX5_around : MethodName := ⟨RX5, "around", "(II)J"⟩
abbrev cX5_beside : ByteArray := prog_7_method_6_code
def yX5_beside : MethodName := ⟨RX5, "beside", "(J)J"⟩
abbrev cX5_isJoined : ByteArray := prog_7_method_7_code
def yX5_isJoined : MethodName := ⟨RX5, "isJoined", "(J)Z"⟩
abbrev cX5_stepsToAll : ByteArray := prog_7_method_8_code
def yX5_stepsToAll : MethodName := ⟨RX5, "stepsToAll", "(JIJ)I"⟩
def RX6 : String := "LandUses$Tape"
def TX6 : u_T := fun k => match k with
  | 0 => ("LandUses$Tape", "bytes", "[B", true)
  | _ => ("LandUses$Tape", "length", "I", false)
def tyX6 : Nat → FieldType := fun k => match k with
  | 0 => .array .byte
  | _ => .int
abbrev wsX60 : List Cond := u_ws RX6 TX6 2
theorem nmX6 : ∀ a, a < 2 → ∀ b, b < 2 → a ≠ b → (TX6 a).2.1 ≠ (TX6 b).2.1 := by decide +kernel
theorem tyX6_ok : ∀ k, k < 2 → parseFieldDescriptor (TX6 k).2.2.1 = some (tyX6 k) := by decide +kernel
abbrev cX6_init : ByteArray := prog_8_method_1_code
def yX6_init : MethodName := ⟨RX6, "<init>", "()V"⟩
abbrev cX6_hasRoom : ByteArray := prog_8_method_2_code
def yX6_hasRoom : MethodName := ⟨RX6, "hasRoom", "()Z"⟩
abbrev cX6_append : ByteArray := prog_8_method_3_code
def yX6_append : MethodName := ⟨RX6, "append", "(I)V"⟩
abbrev cX6_at : ByteArray := prog_8_method_4_code
def yX6_at : MethodName := ⟨RX6, "at", "(I)I"⟩
def RX7 : String := "LandUses$Uses"
def TX7 : u_T := fun k => match k with
  | _ => ("LandUses$Uses", "sets", "[J", true)
def tyX7 : Nat → FieldType := fun k => match k with
  | _ => .array .long
abbrev wsX70 : List Cond := u_ws RX7 TX7 1
theorem nmX7 : ∀ a, a < 1 → ∀ b, b < 1 → a ≠ b → (TX7 a).2.1 ≠ (TX7 b).2.1 := by decide +kernel
theorem tyX7_ok : ∀ k, k < 1 → parseFieldDescriptor (TX7 k).2.2.1 = some (tyX7 k) := by decide +kernel
abbrev cX7_init : ByteArray := prog_9_method_1_code
def yX7_init : MethodName := ⟨RX7, "<init>", "()V"⟩
abbrev cX7_of : ByteArray := prog_9_method_2_code
def yX7_of : MethodName := ⟨RX7, "of", "(I)J"⟩
abbrev cX7_useOf : ByteArray := prog_9_method_3_code
def yX7_useOf : MethodName := ⟨RX7, "useOf", "(I)I"⟩
abbrev cX7_put : ByteArray := prog_9_method_4_code
def yX7_put : MethodName := ⟨RX7, "put", "(JI)I"⟩
abbrev cX7_lift : ByteArray := prog_9_method_5_code
def yX7_lift : MethodName := ⟨RX7, "lift", "(J)V"⟩
abbrev cX7_become : ByteArray := prog_9_method_6_code
def yX7_become : MethodName := ⟨RX7, "become", "(LLandUses$Uses;)V"⟩
abbrev cX7_differencesFrom : ByteArray := prog_9_method_7_code
def yX7_differencesFrom : MethodName := ⟨RX7, "differencesFrom", "(LLandUses$Uses;)I"⟩
abbrev cX7_likeBeside : ByteArray := prog_9_method_8_code
def yX7_likeBeside : MethodName := ⟨RX7, "likeBeside", "(I)I"⟩
def RX8 : String := "LandUses"
def TX8 : u_T := fun k => match k with
  | 0 => ("LandUses", "tape", "LLandUses$Tape;", true)
  | 1 => ("LandUses", "reader", "LLandUses$Reader;", true)
  | 2 => ("LandUses", "land", "LLandUses$Land;", true)
  | 3 => ("LandUses", "search", "LLandUses$Search;", true)
  | 4 => ("LandUses", "nextUses", "LLandUses$Uses;", true)
  | 5 => ("LandUses", "plans", "[LLandUses$Uses;", true)
  | 6 => ("LandUses", "lines", "LLandUses$Book;", false)
  | 7 => ("LandUses", "spareLines", "LLandUses$Book;", false)
  | 8 => ("LandUses", "freeSquares", "J", false)
  | 9 => ("LandUses", "gateSquare", "I", false)
  | 10 => ("LandUses", "planCount", "I", false)
  | 11 => ("LandUses", "year", "I", false)
  | 12 => ("LandUses", "wrongByte", "I", false)
  | _ => ("LandUses", "searched", "Z", false)
def tyX8 : Nat → FieldType := fun k => match k with
  | 0 => .object "LandUses$Tape"
  | 1 => .object "LandUses$Reader"
  | 2 => .object "LandUses$Land"
  | 3 => .object "LandUses$Search"
  | 4 => .object "LandUses$Uses"
  | 5 => .array (.object "LandUses$Uses")
  | 6 => .object "LandUses$Book"
  | 7 => .object "LandUses$Book"
  | 8 => .long
  | 9 => .int
  | 10 => .int
  | 11 => .int
  | 12 => .int
  | _ => .boolean
abbrev wsX80 : List Cond := u_ws RX8 TX8 14
theorem nmX8 : ∀ a, a < 14 → ∀ b, b < 14 → a ≠ b → (TX8 a).2.1 ≠ (TX8 b).2.1 := by decide +kernel
theorem tyX8_ok : ∀ k, k < 14 → parseFieldDescriptor (TX8 k).2.2.1 = some (tyX8 k) := by decide +kernel
abbrev cX8_init : ByteArray := prog_1_method_1_code
def yX8_init : MethodName := ⟨RX8, "<init>", "()V"⟩
abbrev cX8_feed : ByteArray := prog_1_method_2_code
def yX8_feed : MethodName := ⟨RX8, "feed", "(IIIII)I"⟩
abbrev cX8_end : ByteArray := prog_1_method_3_code
def yX8_end : MethodName := ⟨RX8, "end", "(I)Z"⟩
abbrev cX8_use : ByteArray := prog_1_method_4_code
def yX8_use : MethodName := ⟨RX8, "use", "(III)I"⟩
abbrev cX8_soil : ByteArray := prog_1_method_5_code
def yX8_soil : MethodName := ⟨RX8, "soil", "(III)V"⟩
abbrev cX8_free : ByteArray := prog_1_method_6_code
def yX8_free : MethodName := ⟨RX8, "free", "(IZ)Z"⟩
abbrev cX8_gate : ByteArray := prog_1_method_7_code
def yX8_gate : MethodName := ⟨RX8, "gate", "(I)V"⟩
abbrev cX8_book : ByteArray := prog_1_method_8_code
def yX8_book : MethodName := ⟨RX8, "book", "()I"⟩
abbrev cX8_fault : ByteArray := prog_1_method_9_code
def yX8_fault : MethodName := ⟨RX8, "fault", "()I"⟩
abbrev cX8_worth : ByteArray := prog_1_method_10_code
def yX8_worth : MethodName := ⟨RX8, "worth", "()I"⟩
abbrev cX8_adds : ByteArray := prog_1_method_11_code
def yX8_adds : MethodName := ⟨RX8, "adds", "(I)I"⟩
abbrev cX8_broken : ByteArray := prog_1_method_12_code
def yX8_broken : MethodName := ⟨RX8, "broken", "()I"⟩
abbrev cX8_years : ByteArray := prog_1_method_13_code
def yX8_years : MethodName := ⟨RX8, "years", "(I)I"⟩
abbrev cX8_can : ByteArray := prog_1_method_14_code
def yX8_can : MethodName := ⟨RX8, "can", "()Z"⟩
abbrev cX8_best : ByteArray := prog_1_method_15_code
def yX8_best : MethodName := ⟨RX8, "best", "()I"⟩
abbrev cX8_given : ByteArray := prog_1_method_16_code
def yX8_given : MethodName := ⟨RX8, "given", "(I)I"⟩
abbrev cX8_take : ByteArray := prog_1_method_17_code
def yX8_take : MethodName := ⟨RX8, "take", "()Z"⟩
abbrev cX8_cost : ByteArray := prog_1_method_18_code
def yX8_cost : MethodName := ⟨RX8, "cost", "(I)I"⟩
abbrev cX8_look : ByteArray := prog_1_method_19_code
def yX8_look : MethodName := ⟨RX8, "look", "(II)I"⟩
abbrev cX8_keep : ByteArray := prog_1_method_20_code
def yX8_keep : MethodName := ⟨RX8, "keep", "()I"⟩
abbrev cX8_unlike : ByteArray := prog_1_method_21_code
def yX8_unlike : MethodName := ⟨RX8, "unlike", "(II)I"⟩
abbrev cX8_back : ByteArray := prog_1_method_22_code
def yX8_back : MethodName := ⟨RX8, "back", "(I)I"⟩
abbrev cX8_far : ByteArray := prog_1_method_23_code
def yX8_far : MethodName := ⟨RX8, "far", "()I"⟩
abbrev cX8_count : ByteArray := prog_1_method_24_code
def yX8_count : MethodName := ⟨RX8, "count", "(I)I"⟩
abbrev cX8_bestSearch : ByteArray := prog_1_method_25_code
def yX8_bestSearch : MethodName := ⟨RX8, "bestSearch", "()LLandUses$Search;"⟩
abbrev cX8_planOrLand : ByteArray := prog_1_method_26_code
def yX8_planOrLand : MethodName := ⟨RX8, "planOrLand", "(I)LLandUses$Uses;"⟩
abbrev cX8_checkPlan : ByteArray := prog_1_method_27_code
def yX8_checkPlan : MethodName := ⟨RX8, "checkPlan", "(I)V"⟩
abbrev cX8_checkLine : ByteArray := prog_1_method_28_code
def yX8_checkLine : MethodName := ⟨RX8, "checkLine", "(I)V"⟩
abbrev cX8_checkSquare : ByteArray := prog_1_method_29_code
def yX8_checkSquare : MethodName := ⟨RX8, "checkSquare", "(I)V"⟩
def RX9 : String := "LandUsesModel"
def TX9 : u_T := fun k => match k with
  | 0 => ("LandUsesModel", "thrown", "I", false)
  | 1 => ("LandUsesModel", "use", "[I", true)
  | 2 => ("LandUsesModel", "soil", "[I", true)
  | 3 => ("LandUsesModel", "isFree", "[Z", true)
  | 4 => ("LandUsesModel", "frees", "I", false)
  | 5 => ("LandUsesModel", "gate", "I", false)
  | 6 => ("LandUsesModel", "year", "I", false)
  | 7 => ("LandUsesModel", "sort", "[I", true)
  | 8 => ("LandUsesModel", "one", "[I", true)
  | 9 => ("LandUsesModel", "two", "[I", true)
  | 10 => ("LandUsesModel", "three", "[I", true)
  | 11 => ("LandUsesModel", "worth", "[I", true)
  | 12 => ("LandUsesModel", "steps", "[I", true)
  | 13 => ("LandUsesModel", "least", "[I", true)
  | 14 => ("LandUsesModel", "lines", "I", false)
  | 15 => ("LandUsesModel", "plan", "[I", true)
  | 16 => ("LandUsesModel", "plans", "I", false)
  | 17 => ("LandUsesModel", "tape", "[B", true)
  | 18 => ("LandUsesModel", "taped", "I", false)
  | 19 => ("LandUsesModel", "point", "I", false)
  | 20 => ("LandUsesModel", "end", "I", false)
  | 21 => ("LandUsesModel", "begin", "I", false)
  | 22 => ("LandUsesModel", "faultAt", "I", false)
  | 23 => ("LandUsesModel", "five", "[I", true)
  | 24 => ("LandUsesModel", "isMet", "[Z", true)
  | 25 => ("LandUsesModel", "next", "[I", true)
  | 26 => ("LandUsesModel", "place", "[I", true)
  | 27 => ("LandUsesModel", "single", "[I", true)
  | 28 => ("LandUsesModel", "both", "[I", true)
  | 29 => ("LandUsesModel", "was", "[I", true)
  | 30 => ("LandUsesModel", "given", "[I", true)
  | 31 => ("LandUsesModel", "bestWorth", "I", false)
  | _ => ("LandUsesModel", "off", "[I", true)
def tyX9 : Nat → FieldType := fun k => match k with
  | 0 => .int
  | 1 => .array .int
  | 2 => .array .int
  | 3 => .array .boolean
  | 4 => .int
  | 5 => .int
  | 6 => .int
  | 7 => .array .int
  | 8 => .array .int
  | 9 => .array .int
  | 10 => .array .int
  | 11 => .array .int
  | 12 => .array .int
  | 13 => .array .int
  | 14 => .int
  | 15 => .array .int
  | 16 => .int
  | 17 => .array .byte
  | 18 => .int
  | 19 => .int
  | 20 => .int
  | 21 => .int
  | 22 => .int
  | 23 => .array .int
  | 24 => .array .boolean
  | 25 => .array .int
  | 26 => .array .int
  | 27 => .array .int
  | 28 => .array .int
  | 29 => .array .int
  | 30 => .array .int
  | 31 => .int
  | _ => .array .int
abbrev wsX90 : List Cond := u_ws RX9 TX9 33
theorem nmX9 : ∀ a, a < 33 → ∀ b, b < 33 → a ≠ b → (TX9 a).2.1 ≠ (TX9 b).2.1 := by decide +kernel
theorem tyX9_ok : ∀ k, k < 33 → parseFieldDescriptor (TX9 k).2.2.1 = some (tyX9 k) := by decide +kernel
abbrev cX9_init : ByteArray := prog_11_method_1_code
def yX9_init : MethodName := ⟨RX9, "<init>", "()V"⟩
abbrev cX9_thrown : ByteArray := prog_11_method_2_code
def yX9_thrown : MethodName := ⟨RX9, "thrown", "()I"⟩
abbrev cX9_throwsIf : ByteArray := prog_11_method_3_code
def yX9_throwsIf : MethodName := ⟨RX9, "throwsIf", "(ZI)Z"⟩
abbrev cX9_in : ByteArray := prog_11_method_4_code
def yX9_in : MethodName := ⟨RX9, "in", "(III)Z"⟩
abbrev cX9_noSquare : ByteArray := prog_11_method_5_code
def yX9_noSquare : MethodName := ⟨RX9, "noSquare", "(I)Z"⟩
abbrev cX9_isIn : ByteArray := prog_11_method_6_code
def yX9_isIn : MethodName := ⟨RX9, "isIn", "(III)Z"⟩
abbrev cX9_use : ByteArray := prog_11_method_7_code
def yX9_use : MethodName := ⟨RX9, "use", "(III)I"⟩
abbrev cX9_soil : ByteArray := prog_11_method_8_code
def yX9_soil : MethodName := ⟨RX9, "soil", "(III)V"⟩
abbrev cX9_free : ByteArray := prog_11_method_9_code
def yX9_free : MethodName := ⟨RX9, "free", "(IZ)Z"⟩
abbrev cX9_gate : ByteArray := prog_11_method_10_code
def yX9_gate : MethodName := ⟨RX9, "gate", "(I)V"⟩
abbrev cX9_apart : ByteArray := prog_11_method_11_code
def yX9_apart : MethodName := ⟨RX9, "apart", "(II)I"⟩
abbrev cX9_beside : ByteArray := prog_11_method_12_code
def yX9_beside : MethodName := ⟨RX9, "beside", "(II)I"⟩
abbrev cX9_feed : ByteArray := prog_11_method_13_code
def yX9_feed : MethodName := ⟨RX9, "feed", "(IIIII)I"⟩
abbrev cX9_end : ByteArray := prog_11_method_14_code
def yX9_end : MethodName := ⟨RX9, "end", "(I)Z"⟩
abbrev cX9_isAt : ByteArray := prog_11_method_15_code
def yX9_isAt : MethodName := ⟨RX9, "isAt", "(II)Z"⟩
abbrev cX9_blanks : ByteArray := prog_11_method_16_code
def yX9_blanks : MethodName := ⟨RX9, "blanks", "()V"⟩
abbrev cX9_word : ByteArray := prog_11_method_17_code
def yX9_word : MethodName := ⟨RX9, "word", "()V"⟩
abbrev cX9_isWord : ByteArray := prog_11_method_18_code
def yX9_isWord : MethodName := ⟨RX9, "isWord", "(Ljava/lang/String;)Z"⟩
abbrev cX9_need : ByteArray := prog_11_method_19_code
def yX9_need : MethodName := ⟨RX9, "need", "(Ljava/lang/String;)Z"⟩
abbrev cX9_number : ByteArray := prog_11_method_20_code
def yX9_number : MethodName := ⟨RX9, "number", "(II)I"⟩
abbrev cX9_useOf : ByteArray := prog_11_method_21_code
def yX9_useOf : MethodName := ⟨RX9, "useOf", "()I"⟩
abbrev cX9_readUse : ByteArray := prog_11_method_22_code
def yX9_readUse : MethodName := ⟨RX9, "readUse", "()I"⟩
abbrev cX9_readWorth : ByteArray := prog_11_method_23_code
def yX9_readWorth : MethodName := ⟨RX9, "readWorth", "(I)Z"⟩
abbrev cX9_readLaw : ByteArray := prog_11_method_24_code
def yX9_readLaw : MethodName := ⟨RX9, "readLaw", "(I)Z"⟩
abbrev cX9_readGrow : ByteArray := prog_11_method_25_code
def yX9_readGrow : MethodName := ⟨RX9, "readGrow", "(I)Z"⟩
abbrev cX9_readLine : ByteArray := prog_11_method_26_code
def yX9_readLine : MethodName := ⟨RX9, "readLine", "(I)Z"⟩
abbrev cX9_readAll : ByteArray := prog_11_method_27_code
def yX9_readAll : MethodName := ⟨RX9, "readAll", "()I"⟩
abbrev cX9_book : ByteArray := prog_11_method_28_code
def yX9_book : MethodName := ⟨RX9, "book", "()I"⟩
abbrev cX9_fault : ByteArray := prog_11_method_29_code
def yX9_fault : MethodName := ⟨RX9, "fault", "()I"⟩
abbrev cX9_pair : ByteArray := prog_11_method_30_code
def yX9_pair : MethodName := ⟨RX9, "pair", "(IIIII)I"⟩
abbrev cX9_alone : ByteArray := prog_11_method_31_code
def yX9_alone : MethodName := ⟨RX9, "alone", "(III)I"⟩
abbrev cX9_addsOf : ByteArray := prog_11_method_32_code
def yX9_addsOf : MethodName := ⟨RX9, "addsOf", "(I)I"⟩
abbrev cX9_worthOf : ByteArray := prog_11_method_33_code
def yX9_worthOf : MethodName := ⟨RX9, "worthOf", "()I"⟩
abbrev cX9_worth : ByteArray := prog_11_method_34_code
def yX9_worth : MethodName := ⟨RX9, "worth", "()I"⟩
abbrev cX9_adds : ByteArray := prog_11_method_35_code
def yX9_adds : MethodName := ⟨RX9, "adds", "(I)I"⟩
abbrev cX9_isLaw : ByteArray := prog_11_method_36_code
def yX9_isLaw : MethodName := ⟨RX9, "isLaw", "(I)Z"⟩
abbrev cX9_countOf : ByteArray := prog_11_method_37_code
def yX9_countOf : MethodName := ⟨RX9, "countOf", "(I)I"⟩
abbrev cX9_areApart : ByteArray := prog_11_method_38_code
def yX9_areApart : MethodName := ⟨RX9, "areApart", "(I)Z"⟩
abbrev cX9_areJoined : ByteArray := prog_11_method_39_code
def yX9_areJoined : MethodName := ⟨RX9, "areJoined", "(I)Z"⟩
abbrev cX9_holds : ByteArray := prog_11_method_40_code
def yX9_holds : MethodName := ⟨RX9, "holds", "(I)Z"⟩
abbrev cX9_broken : ByteArray := prog_11_method_41_code
def yX9_broken : MethodName := ⟨RX9, "broken", "()I"⟩
abbrev cX9_grows : ByteArray := prog_11_method_42_code
def yX9_grows : MethodName := ⟨RX9, "grows", "(II)Z"⟩
abbrev cX9_years : ByteArray := prog_11_method_43_code
def yX9_years : MethodName := ⟨RX9, "years", "(I)I"⟩
abbrev cX9_bothAt : ByteArray := prog_11_method_44_code
def yX9_bothAt : MethodName := ⟨RX9, "bothAt", "(IIII)I"⟩
abbrev cX9_weighs : ByteArray := prog_11_method_45_code
def yX9_weighs : MethodName := ⟨RX9, "weighs", "()V"⟩
abbrev cX9_others : ByteArray := prog_11_method_46_code
def yX9_others : MethodName := ⟨RX9, "others", "()I"⟩
abbrev cX9_allHold : ByteArray := prog_11_method_47_code
def yX9_allHold : MethodName := ⟨RX9, "allHold", "(I)Z"⟩
abbrev cX9_seeks : ByteArray := prog_11_method_48_code
def yX9_seeks : MethodName := ⟨RX9, "seeks", "(I)Z"⟩
abbrev cX9_can : ByteArray := prog_11_method_49_code
def yX9_can : MethodName := ⟨RX9, "can", "()Z"⟩
abbrev cX9_best : ByteArray := prog_11_method_50_code
def yX9_best : MethodName := ⟨RX9, "best", "()I"⟩
abbrev cX9_given : ByteArray := prog_11_method_51_code
def yX9_given : MethodName := ⟨RX9, "given", "(I)I"⟩
abbrev cX9_take : ByteArray := prog_11_method_52_code
def yX9_take : MethodName := ⟨RX9, "take", "()Z"⟩
abbrev cX9_cost : ByteArray := prog_11_method_53_code
def yX9_cost : MethodName := ⟨RX9, "cost", "(I)I"⟩
abbrev cX9_look : ByteArray := prog_11_method_54_code
def yX9_look : MethodName := ⟨RX9, "look", "(II)I"⟩
abbrev cX9_keep : ByteArray := prog_11_method_55_code
def yX9_keep : MethodName := ⟨RX9, "keep", "()I"⟩
abbrev cX9_useIn : ByteArray := prog_11_method_56_code
def yX9_useIn : MethodName := ⟨RX9, "useIn", "(II)I"⟩
abbrev cX9_unlike : ByteArray := prog_11_method_57_code
def yX9_unlike : MethodName := ⟨RX9, "unlike", "(II)I"⟩
abbrev cX9_back : ByteArray := prog_11_method_58_code
def yX9_back : MethodName := ⟨RX9, "back", "(I)I"⟩
abbrev cX9_far : ByteArray := prog_11_method_59_code
def yX9_far : MethodName := ⟨RX9, "far", "()I"⟩
abbrev cX9_count : ByteArray := prog_11_method_60_code
def yX9_count : MethodName := ⟨RX9, "count", "(I)I"⟩
def RJ6 : String := "java/lang/Integer"
def TJ6 : u_T := fun k => match k with
  | _ => ("", "", "", false)
def tyJ6 : Nat → FieldType := fun k => match k with
  | _ => .int
abbrev wsJ60 : List Cond := u_ws RJ6 TJ6 0
theorem nmJ6 : ∀ a, a < 0 → ∀ b, b < 0 → a ≠ b → (TJ6 a).2.1 ≠ (TJ6 b).2.1 := by decide +kernel
theorem tyJ6_ok : ∀ k, k < 0 → parseFieldDescriptor (TJ6 k).2.2.1 = some (tyJ6 k) := by decide +kernel
abbrev cJ6_bitCount_0f7a4 : ByteArray := prog_15_method_49_code
def yJ6_bitCount_0f7a4 : MethodName := ⟨RJ6, "bitCount", "(I)I"⟩
def RJ13 : String := "java/lang/Long"
def TJ13 : u_T := fun k => match k with
  | _ => ("", "", "", false)
def tyJ13 : Nat → FieldType := fun k => match k with
  | _ => .int
abbrev wsJ130 : List Cond := u_ws RJ13 TJ13 0
theorem nmJ13 : ∀ a, a < 0 → ∀ b, b < 0 → a ≠ b → (TJ13 a).2.1 ≠ (TJ13 b).2.1 := by decide +kernel
theorem tyJ13_ok : ∀ k, k < 0 → parseFieldDescriptor (TJ13 k).2.2.1 = some (tyJ13 k) := by decide +kernel
abbrev cJ13_bitCount_95d88 : ByteArray := prog_16_method_50_code
def yJ13_bitCount_95d88 : MethodName := ⟨RJ13, "bitCount", "(J)I"⟩
def RJ9 : String := "java/lang/Math"
def TJ9 : u_T := fun k => match k with
  | _ => ("", "", "", false)
def tyJ9 : Nat → FieldType := fun k => match k with
  | _ => .int
abbrev wsJ90 : List Cond := u_ws RJ9 TJ9 0
theorem nmJ9 : ∀ a, a < 0 → ∀ b, b < 0 → a ≠ b → (TJ9 a).2.1 ≠ (TJ9 b).2.1 := by decide +kernel
theorem tyJ9_ok : ∀ k, k < 0 → parseFieldDescriptor (TJ9 k).2.2.1 = some (tyJ9 k) := by decide +kernel
abbrev cJ9_abs_0f7a4 : ByteArray := prog_17_method_59_code
def yJ9_abs_0f7a4 : MethodName := ⟨RJ9, "abs", "(I)I"⟩
abbrev cJ9_max_7cf53 : ByteArray := prog_17_method_65_code
def yJ9_max_7cf53 : MethodName := ⟨RJ9, "max", "(II)I"⟩
abbrev cJ9_min_7cf53 : ByteArray := prog_17_method_69_code
def yJ9_min_7cf53 : MethodName := ⟨RJ9, "min", "(II)I"⟩
def RJ0 : String := "java/lang/String"
def TJ0 : u_T := fun k => match k with
  | _ => ("", "", "", false)
def tyJ0 : Nat → FieldType := fun k => match k with
  | _ => .int
abbrev wsJ00 : List Cond := u_ws RJ0 TJ0 0
theorem nmJ0 : ∀ a, a < 0 → ∀ b, b < 0 → a ≠ b → (TJ0 a).2.1 ≠ (TJ0 b).2.1 := by decide +kernel
theorem tyJ0_ok : ∀ k, k < 0 → parseFieldDescriptor (TJ0 k).2.2.1 = some (tyJ0 k) := by decide +kernel
abbrev cJ0_length_8abf5 : ByteArray := prog_19_method_54_code
def yJ0_length_8abf5 : MethodName := ⟨RJ0, "length", "()I"⟩
abbrev cJ0_charAt_5068e : ByteArray := prog_19_method_56_code
def yJ0_charAt_5068e : MethodName := ⟨RJ0, "charAt", "(I)C"⟩
abbrev cJ0_coder_7d493 : ByteArray := prog_19_method_152_code
def yJ0_coder_7d493 : MethodName := ⟨RJ0, "coder", "()B"⟩
abbrev cJ0_isLatin1_aae02 : ByteArray := prog_19_method_154_code
def yJ0_isLatin1_aae02 : MethodName := ⟨RJ0, "isLatin1", "()Z"⟩
abbrev cJ0_checkIndex_df160 : ByteArray := prog_19_method_155_code
def yJ0_checkIndex_df160 : MethodName := ⟨RJ0, "checkIndex", "(II)V"⟩
def RJ1 : String := "java/lang/StringLatin1"
def TJ1 : u_T := fun k => match k with
  | _ => ("", "", "", false)
def tyJ1 : Nat → FieldType := fun k => match k with
  | _ => .int
abbrev wsJ10 : List Cond := u_ws RJ1 TJ1 0
theorem nmJ1 : ∀ a, a < 0 → ∀ b, b < 0 → a ≠ b → (TJ1 a).2.1 ≠ (TJ1 b).2.1 := by decide +kernel
theorem tyJ1_ok : ∀ k, k < 0 → parseFieldDescriptor (TJ1 k).2.2.1 = some (tyJ1 k) := by decide +kernel
abbrev cJ1_charAt_3b067 : ByteArray := prog_20_method_2_code
def yJ1_charAt_3b067 : MethodName := ⟨RJ1, "charAt", "([BI)C"⟩
def RJ2 : String := "java/lang/StringUTF16"
def TJ2 : u_T := fun k => match k with
  | _ => ("", "", "", false)
def tyJ2 : Nat → FieldType := fun k => match k with
  | _ => .int
abbrev wsJ20 : List Cond := u_ws RJ2 TJ2 0
theorem nmJ2 : ∀ a, a < 0 → ∀ b, b < 0 → a ≠ b → (TJ2 a).2.1 ≠ (TJ2 b).2.1 := by decide +kernel
theorem tyJ2_ok : ∀ k, k < 0 → parseFieldDescriptor (TJ2 k).2.2.1 = some (tyJ2 k) := by decide +kernel
abbrev cJ2_getChar_3b067 : ByteArray := prog_21_method_5_code
def yJ2_getChar_3b067 : MethodName := ⟨RJ2, "getChar", "([BI)C"⟩
abbrev cJ2_length_9d52b : ByteArray := prog_21_method_6_code
def yJ2_length_9d52b : MethodName := ⟨RJ2, "length", "([B)I"⟩
abbrev cJ2_charAt_3b067 : ByteArray := prog_21_method_83_code
def yJ2_charAt_3b067 : MethodName := ⟨RJ2, "charAt", "([BI)C"⟩
abbrev cJ2_checkIndex_2214a : ByteArray := prog_21_method_91_code
def yJ2_checkIndex_2214a : MethodName := ⟨RJ2, "checkIndex", "(I[B)V"⟩
def RJ3 : String := "jdk/internal/util/Preconditions"
def TJ3 : u_T := fun k => match k with
  | _ => ("", "", "", false)
def tyJ3 : Nat → FieldType := fun k => match k with
  | _ => .int
abbrev wsJ30 : List Cond := u_ws RJ3 TJ3 0
theorem nmJ3 : ∀ a, a < 0 → ∀ b, b < 0 → a ≠ b → (TJ3 a).2.1 ≠ (TJ3 b).2.1 := by decide +kernel
theorem tyJ3_ok : ∀ k, k < 0 → parseFieldDescriptor (TJ3 k).2.2.1 = some (tyJ3 k) := by decide +kernel
abbrev cJ3_checkIndex_8e157 : ByteArray := prog_24_method_11_code
def yJ3_checkIndex_8e157 : MethodName := ⟨RJ3, "checkIndex", "(IILjava/util/function/BiFunction;)I"⟩
def RL : String := "LandUsesLaw"
abbrev cL_use : ByteArray := method_3_code
def yL_use : MethodName := ⟨RL, "use", "(LLandUses;III[J)I"⟩
abbrev cL_soil : ByteArray := method_4_code
def yL_soil : MethodName := ⟨RL, "soil", "(LLandUses;III)I"⟩
abbrev cL_free : ByteArray := method_5_code
def yL_free : MethodName := ⟨RL, "free", "(LLandUses;IZ[J)I"⟩
abbrev cL_gate : ByteArray := method_6_code
def yL_gate : MethodName := ⟨RL, "gate", "(LLandUses;I)I"⟩
abbrev cL_book : ByteArray := method_7_code
def yL_book : MethodName := ⟨RL, "book", "(LLandUses;[J)I"⟩
abbrev cL_adds : ByteArray := method_8_code
def yL_adds : MethodName := ⟨RL, "adds", "(LLandUses;I[J)I"⟩
abbrev cL_years : ByteArray := method_9_code
def yL_years : MethodName := ⟨RL, "years", "(LLandUses;I[J)I"⟩
abbrev cL_best : ByteArray := method_10_code
def yL_best : MethodName := ⟨RL, "best", "(LLandUses;[J)I"⟩
abbrev cL_given : ByteArray := method_11_code
def yL_given : MethodName := ⟨RL, "given", "(LLandUses;I[J)I"⟩
abbrev cL_cost : ByteArray := method_12_code
def yL_cost : MethodName := ⟨RL, "cost", "(LLandUses;I[J)I"⟩
abbrev cL_look : ByteArray := method_13_code
def yL_look : MethodName := ⟨RL, "look", "(LLandUses;II[J)I"⟩
abbrev cL_unlike : ByteArray := method_14_code
def yL_unlike : MethodName := ⟨RL, "unlike", "(LLandUses;II[J)I"⟩
abbrev cL_back : ByteArray := method_15_code
def yL_back : MethodName := ⟨RL, "back", "(LLandUses;I[J)I"⟩
abbrev cL_law : ByteArray := code
def yL_law : MethodName := ⟨RL, "law", "([I)Z"⟩
end
section
/-! THE SMALL MACHINE: methods as tables of instructions, a heap of cells by number, locals by place; a step is a function. Below: what a step of it says of the real machine. -/
/-- base address, addresses of things outside, the classes' numbers and slots, the array classes, the heap at the start -/
abbrev mE : Type := Nat × (Nat → Nat) × va_G × (Nat → ClassId) × Heap
abbrev mH : Type := List va_E
/-- name, bytes, places, answer, handlers, number of the own class, instructions -/
abbrev mM : Type := MethodName × ByteArray × Nat × Option FieldType × List (Nat × Nat × Nat × Nat) × Nat × List (Nat × Instr × Nat)
abbrev mS : Type := Nat × List (Option Value) × List Value × mH
def m_ad (E : mE) (k : Nat) : Nat := if k < 1000000 then E.1 + k else E.2.1 k
def m_v (E : mE) : Value → Value
  | .ref a => .ref (m_ad E a)
  | v => v
def m_c (E : mE) : va_E → va_E
  | .inr o => .inr (o.1, o.2.map (m_v E))
  | .inl (t, n, .inr (.inr (.inr (.inr g)))) => .inl (E.2.2.2.1 t, n, .inr (.inr (.inr (.inr (fun i => (g i).map (m_ad E))))))
  | .inl (t, n, x) => .inl (E.2.2.2.1 t, n, x)
def m_W (E : mE) (h : mH) : va_W := h.mapIdx (fun k c => (m_ad E k, m_c E c))
/-- the kinds of arrays -/
def m_ty : List FieldType := [.int, .long, .byte, .boolean, .object "LandUses$Line", .object "LandUses$Uses", .array .long]
def m_tys (E : mE) : List (ClassId × FieldType) := m_ty.mapIdx (fun k t => (E.2.2.2.1 k, t))
abbrev m_cl : List vw_C := [(RX0, TX0, 2), (RX1, TX1, 3), (RX2, TX2, 7), (RX3, TX3, 3), (RX4, TX4, 8), (RX6, TX6, 2), (RX7, TX7, 1), (RX8, TX8, 14), (RX9, TX9, 33)]
def m_R (E : mE) (tg : Bool) (h : mH) (H : Heap) : Prop :=
  va_P E.2.2.1 m_cl (m_W E h) H ∧ E.1 + h.length ≤ H.size ∧ (tg = true → H.size ≤ E.1 + h.length) ∧ (∀ q, q < E.1 → H[q]? = E.2.2.2.2[q]?) ∧ h.length ≤ 1000000 ∧ E.2.2.2.2.size = E.1
def m_L (E : mE) (ls : Array Slot) (nL : Nat) (L : List (Option Value)) : Prop :=
  ls.size = nL ∧ lv_wf ls ∧ L.length = nL ∧ ∀ (i : Nat) (v : Value), L[i]? = some (some v) → ls[i]? = some (Slot.val (m_v E v))
def m_rm (d mc ms : Nat) : Room := { frames := 8 + d, cells := mc, slots := ms, locals := 300 + 100 * d }
theorem m_cat (E : mE) (v : Value) : (m_v E v).category = v.category := by cases v <;> rfl
theorem m_W_get {E : mE} {h : mH} {k : Nat} {c : va_E} (hk : h[k]? = some c) : (m_W E h)[k]? = some (m_ad E k, m_c E c) := by
  simp [m_W, List.getElem?_mapIdx, hk]
theorem m_W_set (E : mE) (h : mH) (k : Nat) (c : va_E) : (m_W E h).set k (m_ad E k, m_c E c) = m_W E (h.set k c) := by
  apply List.ext_getElem?
  intro i
  simp only [m_W, List.getElem?_set, List.getElem?_mapIdx, List.length_mapIdx]
  by_cases hi : k = i
  · subst hi
    by_cases hl : k < h.length <;> simp [hl]
  · simp [hi]
theorem m_tys_get (E : mE) {t : Nat} {ty : FieldType} (h : m_ty[t]? = some ty) : (m_tys E)[t]? = some (E.2.2.2.1 t, ty) := by
  simp [m_tys, List.getElem?_mapIdx, h]
theorem m_D {E : mE} {h : mH} (hl : h.length ≤ 1000000) : va_D (fun q => E.1 ≤ q) (m_W E h) := by
  have key : ∀ (i : Nat) (p : Nat × va_E), (m_W E h)[i]? = some p → i < 1000000 ∧ p.1 = E.1 + i := by
    intro i p hp
    have hi : i < (m_W E h).length := (List.getElem?_eq_some_iff.mp hp).1
    have hi2 : i < 1000000 := by simp [m_W] at hi; omega
    simp only [m_W, List.getElem?_mapIdx] at hp
    cases hc : h[i]? with
    | none => rw [hc] at hp; simp at hp
    | some c =>
      rw [hc] at hp
      simp only [Option.map_some, Option.some.injEq] at hp
      subst hp
      exact ⟨hi2, by simp [m_ad, hi2]⟩
  refine ⟨fun i j p q hp hq e => ?_, fun k q hq => ?_⟩
  · have a := (key i p hp).2
    have b := (key j q hq).2
    omega
  · rw [(key k q hq).2]; exact Nat.le_add_right _ _
/-- the words that every method has -/
def m_good : Cond → Bool
  | .arrayClass _ => true
  | w => w.onTables && (w.keepsH || w.keepsFace)
theorem m_word_at {args a' : Array Value} {s U : State} (hW : s.WarmedH U.vm) {w : Cond} (hc : m_good w = true) (h : w.before args s = true) : w.before a' U = true := by
  have key : (w.onTables && (w.keepsH || w.keepsFace)) = true → w.before a' U = true := fun hk => by
    simp only [Bool.and_eq_true, Bool.or_eq_true] at hk
    rcases hk with ⟨h1, h2 | h2⟩
    · have h3 := Cond.onTables_warmH (T := U) (args' := a') hW h1 h2 h
      rwa [State.setVm_self] at h3
    · have h3 : w.before args (s.setVm U.vm) = true := Cond.before_shiftedFace (State.Shifted.of_warmed hW) _ h2 h
      exact va_tabs h1 (rfl : (s.setVm U.vm).vm = U.vm) h3
  cases w with
  | arrayClass ty => exact word_at hW (Or.inr ⟨ty, rfl⟩) h
  | _ => exact key hc
def m_tbl : List Cond := lw_tbl.filter m_good
def m_w1 (M : mM) : Cond := match M.2.2.2.2.1 with
  | [] => .code M.1 M.2.1 M.2.2.1 M.2.2.2.1
  | hh => .codeWith M.1 M.2.1 M.2.2.1 M.2.2.2.1 hh
def m_ws (M : mM) : List Cond := m_w1 M :: m_tbl
/-- the machine around a body -/
def m_X (EX : State → Prop) (E : mE) (M : mM) (p : Program) (s : State) (m : MethodId) (args : Array Value) (meth : Method) (c : Code) : Prop :=
  p.tables.exec = Jvm.exec ∧ c.code = M.2.1 ∧ meth.sig.returnType = M.2.2.2.1 ∧ c.maxLocals = M.2.2.1 ∧ s.vm.findClass M.1.cls = some m.cls ∧ (∀ w ∈ m_tbl, w.before args s = true) ∧ va_K E.2.2.1 m_cl (m_tys E) s ∧ meth.locks = false ∧ meth.name = M.1.name ∧ c.exceptionTable.toList = tableOf M.2.2.2.2.1 ∧ EX s ∧ E.1 ≤ s.heap.size ∧ (∀ q, q < E.1 → s.heap[q]? = E.2.2.2.2[q]?)
def m_Qc (E : mE) (PR : Option Value → mH → Bool → Prop) : Array Value → State → Outcome → State → Prop := fun _ st o t =>
  (∃ (v : Option Value) (h : mH) (tg : Bool), o = .returned (v.map (m_v E)) ∧ PR v h tg ∧ m_R E tg h t.heap) ∧ st.heap.size ≤ t.heap.size
def m_XC (E : mE) (PX : String → mH → Prop) : String → State → State → Prop := fun nm st t =>
  (∃ h : mH, PX nm h ∧ m_R E false h t.heap) ∧ st.heap.size ≤ t.heap.size
/-- THE JUDGEMENT: from this point of the body the method comes to an end that PR or PX allows -/
def m_J (l : Launch) (EX : State → Prop) (E : mE) (M : mM) (d mc ms : Nat) (PR : Option Value → mH → Bool → Prop) (PX : String → mH → Prop) (tg : Bool) (kc ks : Nat) (S : mS) : Prop :=
  ∀ (p : Program) (e : Env) (s : State) (m : MethodId) (args : Array Value) (below : List Frame) (meth : Method) (c : Code) (H : Heap) (locs : List Loc) (ls : Array Slot),
    m_X EX E M p s m args meth c → m_R E tg S.2.2.2 H → s.heap.size ≤ H.size → (tg = true → s.heap.size + kc ≤ E.1 + S.2.2.2.length) → (∀ q ∈ locs, E.1 ≤ q.base) → m_L E ls M.2.2.1 S.2.1 →
    W p l e (m_rm d mc ms) s m args below meth c H locs kc ks (vx_MQ below (m_Qc E PR) (m_XC E PX) args s mc ms (fun q => E.1 ≤ q)) (F0 m S.1 ls (S.2.2.1.map (m_v E)))
/-- the heap is never larger than what was counted -/
theorem m_size {p : Program} {l : Launch} {e : Env} {R : Room} {s : State} {m : MethodId} {args : Array Value} {below : List Frame} {meth : Method} {c : Code} {H : Heap} {locs : List Loc} {cells slots : Nat} {Q : State → Prop} {g : JFrame}
    (k : H.size ≤ s.heap.size + cells → s.heap.size ≤ H.size → W p l e R s m args below meth c H locs cells slots Q g) : W p l e R s m args below meth c H locs cells slots Q g := by
  intro T hT X
  have h := X.same
  have h2 : T.heap.size ≤ s.heap.size + cells := h.2.2.1
  have h3 : s.heap.size ≤ T.heap.size := h.2.1
  rw [hT] at h2 h3
  exact k h2 h3 T hT X
end
section
/-! tables of the small machine: written by wip/gen_tabs.py -/
def m_owns : List String := [RX0, RX1, RX2, RX3, RX4, RX5, RX6, RX7, RX8, RX9, RJ6, RJ13, RJ9, RL, RJ0, RJ1, RJ3]
/-- (own class, index) to (class, field, 1 if a nest mate's) -/
def m_FT : List ((Nat × Nat) × (Nat × Nat × Nat)) := [((6, 11), (5, 0, 0)), ((6, 15), (5, 1, 0)), ((8, 91), (5, 1, 1)), ((3, 144), (5, 1, 1)), ((3, 9), (3, 0, 0)), ((3, 15), (3, 1, 0)), ((3, 19), (3, 2, 0)), ((7, 9), (6, 0, 0)), ((1, 36), (6, 0, 1)), ((2, 61), (6, 0, 1)), ((1, 12), (1, 0, 0)), ((4, 56), (1, 0, 1)), ((2, 42), (1, 0, 1)), ((8, 104), (1, 0, 1)), ((0, 48), (1, 0, 1)), ((1, 18), (1, 1, 0)), ((2, 50), (1, 1, 1)), ((8, 210), (1, 1, 1)), ((1, 24), (1, 2, 0)), ((2, 38), (1, 2, 1)), ((2, 7), (2, 0, 0)), ((3, 88), (2, 0, 1)), ((2, 16), (2, 1, 0)), ((3, 72), (2, 1, 1)), ((2, 19), (2, 2, 0)), ((3, 91), (2, 2, 1)), ((3, 116), (2, 3, 1)), ((0, 70), (2, 3, 1)), ((2, 22), (2, 4, 0)), ((3, 94), (2, 4, 1)), ((2, 31), (2, 5, 0)), ((3, 99), (2, 5, 1)), ((2, 13), (2, 6, 0)), ((3, 83), (2, 6, 1)), ((0, 11), (0, 0, 0)), ((3, 36), (0, 0, 1)), ((8, 153), (0, 0, 1)), ((0, 18), (0, 1, 0)), ((3, 22), (0, 1, 1)), ((8, 143), (0, 1, 1)), ((4, 14), (4, 0, 0)), ((4, 20), (4, 1, 0)), ((4, 27), (4, 2, 0)), ((8, 188), (4, 2, 1)), ((4, 31), (4, 3, 0)), ((8, 200), (4, 3, 1)), ((4, 34), (4, 4, 0)), ((4, 38), (4, 5, 0)), ((4, 42), (4, 6, 0)), ((8, 177), (4, 6, 1)), ((4, 46), (4, 7, 0)), ((8, 185), (4, 7, 1)), ((8, 12), (7, 0, 0)), ((8, 21), (7, 1, 0)), ((8, 28), (7, 2, 0)), ((8, 58), (7, 3, 0)), ((8, 35), (7, 4, 0)), ((8, 39), (7, 5, 0)), ((8, 46), (7, 6, 0)), ((8, 50), (7, 7, 0)), ((8, 62), (7, 8, 0)), ((8, 66), (7, 9, 0)), ((8, 70), (7, 10, 0)), ((8, 73), (7, 11, 0)), ((8, 76), (7, 12, 0)), ((8, 79), (7, 13, 0)), ((9, 79), (8, 0, 0)), ((9, 9), (8, 1, 0)), ((9, 13), (8, 2, 0)), ((9, 16), (8, 3, 0)), ((9, 106), (8, 4, 0)), ((9, 109), (8, 5, 0)), ((9, 244), (8, 6, 0)), ((9, 20), (8, 7, 0)), ((9, 23), (8, 8, 0)), ((9, 26), (8, 9, 0)), ((9, 29), (8, 10, 0)), ((9, 32), (8, 11, 0)), ((9, 35), (8, 12, 0)), ((9, 38), (8, 13, 0)), ((9, 210), (8, 14, 0)), ((9, 41), (8, 15, 0)), ((9, 272), (8, 16, 0)), ((9, 44), (8, 17, 0)), ((9, 116), (8, 18, 0)), ((9, 119), (8, 19, 0)), ((9, 122), (8, 20, 0)), ((9, 129), (8, 21, 0)), ((9, 48), (8, 22, 0)), ((9, 52), (8, 23, 0)), ((9, 55), (8, 24, 0)), ((9, 58), (8, 25, 0)), ((9, 61), (8, 26, 0)), ((9, 64), (8, 27, 0)), ((9, 67), (8, 28, 0)), ((9, 70), (8, 29, 0)), ((9, 73), (8, 30, 0)), ((9, 260), (8, 31, 0)), ((9, 76), (8, 32, 0))]
def m_CT : List ((Nat × Nat) × Value) := [((7, 17), .long (1152921504606846975)), ((5, 28), .long (-1)), ((11, 314), .long (6148914691236517205)), ((11, 316), .long (3689348814741910323)), ((11, 318), .long (1085102592571150095)), ((5, 30), .long (-577024252550054401)), ((5, 32), .long (-1127000493261826)), ((5, 34), .long (1152921504606846975)), ((4, 51), .int (-2147483648)), ((7, 23), .long (-1)), ((10, 265), .int (1431655765)), ((10, 266), .int (858993459)), ((10, 267), .int (252645135)), ((8, 232), .long (1152921504606846975)), ((8, 234), .long (-1))]
def m_tyf (c : Nat) : Nat → FieldType := match c with
  | 0 => tyX0
  | 1 => tyX1
  | 2 => tyX2
  | 3 => tyX3
  | 4 => tyX4
  | 5 => tyX6
  | 6 => tyX7
  | 7 => tyX8
  | _ => tyX9
theorem m_lw_mem {w : Cond} (i : Nat) (h : lw_tbl[i]? = some w) : w ∈ lw_tbl := List.mem_of_getElem? h
def m_in (w : Cond) : Bool := decide (w ∈ lw_tbl) && m_good w
theorem m_in_mem {w : Cond} (h : m_in w = true) : w ∈ m_tbl := by
  simp only [m_in, Bool.and_eq_true, decide_eq_true_eq] at h
  exact List.mem_filter.mpr h
/-- a field's row, against the words -/
def m_FTw (q : (Nat × Nat) × (Nat × Nat × Nat)) (r : vw_C) : Cond := if q.2.2.2 = 0 then Cond.fieldLink (m_owns.getD q.1.1 "") q.1.2 (r.2.1 q.2.2.1).1 (r.2.1 q.2.2.1).2.1 (r.2.1 q.2.2.1).2.2.1 else Cond.fieldLinkNest (m_owns.getD q.1.1 "") q.1.2 (r.2.1 q.2.2.1).1 (r.2.1 q.2.2.1).2.1 (r.2.1 q.2.2.1).2.2.1 "LandUses"
def m_FTok (q : (Nat × Nat) × (Nat × Nat × Nat)) : Bool := match m_cl[q.2.1]? with
  | none => false
  | some r => decide (q.2.2.1 < r.2.2) && m_in (m_FTw q r)
set_option maxRecDepth 100000 in
theorem m_FT_ok : m_FT.all m_FTok = true := by decide +kernel
def m_CTw (q : (Nat × Nat) × Value) : Cond := match q.2 with
  | .int v => Cond.constant (m_owns.getD q.1.1 "") q.1.2 v
  | .long v => Cond.constantLong (m_owns.getD q.1.1 "") q.1.2 v
  | _ => .tt
set_option maxRecDepth 100000 in
theorem m_CT_ok : m_CT.all (fun q => m_in (m_CTw q)) = true := by decide +kernel
set_option maxRecDepth 100000 in
theorem m_iX : m_cl.all (fun r => (u_ws r.1 r.2.1 r.2.2).all m_in) = true := by decide +kernel
theorem m_ft_spec {o i c k n : Nat} (h : m_FT.lookup (o, i) = some (c, k, n)) : ∃ r, m_cl[c]? = some r ∧ k < r.2.2 ∧ m_FTw ((o, i), (c, k, n)) r ∈ m_tbl := by
  have hm : ((o, i), (c, k, n)) ∈ m_FT := by
    obtain ⟨l1, l2, e, -⟩ := List.lookup_eq_some_iff.mp h
    rw [e]; simp
  have := List.all_eq_true.mp m_FT_ok _ hm
  unfold m_FTok at this
  dsimp only at this
  cases hc : m_cl[c]? with
  | none => rw [hc] at this; cases this
  | some r =>
    rw [hc] at this
    simp only [Bool.and_eq_true, decide_eq_true_eq] at this
    exact ⟨r, rfl, this.1, m_in_mem this.2⟩
theorem m_ct_spec {o i : Nat} {v : Value} (h : m_CT.lookup (o, i) = some v) : m_CTw ((o, i), v) ∈ m_tbl := by
  have hm : ((o, i), v) ∈ m_CT := by
    obtain ⟨l1, l2, e, -⟩ := List.lookup_eq_some_iff.mp h
    rw [e]; simp
  exact m_in_mem (List.all_eq_true.mp m_CT_ok _ hm)
theorem m_cl_spec {c : Nat} {r : vw_C} (h : m_cl[c]? = some r) : (∀ k, k < r.2.2 → parseFieldDescriptor (r.2.1 k).2.2.1 = some (m_tyf c k)) ∧ (∀ a, a < r.2.2 → ∀ b, b < r.2.2 → a ≠ b → (r.2.1 a).2.1 ≠ (r.2.1 b).2.1) ∧ ∀ w ∈ u_ws r.1 r.2.1 r.2.2, w ∈ m_tbl := by
  refine ⟨?_, ?_, fun w hw => m_in_mem (List.all_eq_true.mp (List.all_eq_true.mp m_iX r (List.mem_of_getElem? h)) w hw)⟩
  · match c, h with
    | 0, h => cases h; exact tyX0_ok
    | 1, h => cases h; exact tyX1_ok
    | 2, h => cases h; exact tyX2_ok
    | 3, h => cases h; exact tyX3_ok
    | 4, h => cases h; exact tyX4_ok
    | 5, h => cases h; exact tyX6_ok
    | 6, h => cases h; exact tyX7_ok
    | 7, h => cases h; exact tyX8_ok
    | 8, h => cases h; exact tyX9_ok
    | c + 9, h => simp [m_cl] at h
  · match c, h with
    | 0, h => cases h; exact nmX0
    | 1, h => cases h; exact nmX1
    | 2, h => cases h; exact nmX2
    | 3, h => cases h; exact nmX3
    | 4, h => cases h; exact nmX4
    | 5, h => cases h; exact nmX6
    | 6, h => cases h; exact nmX7
    | 7, h => cases h; exact nmX8
    | 8, h => cases h; exact nmX9
    | c + 9, h => simp [m_cl] at h
end
section
/-! what a table of instructions, and the words of calls, must be -/
def m_tb (M : mM) : List (Nat × Instr × Nat) := M.2.2.2.2.2.2
def m_len : Instr → Nat
  | .bipush _ | .iload _ | .istore _ | .lload _ | .lstore _ | .aload _ | .astore _ | .ldc _ | .newarray _ => 2
  | .sipush _ | .getfield _ | .putfield _ | .goto _ | .if_icmp _ _ | .ifCond _ _ | .iinc _ _ | .ldc_w _ | .ldc2_w _ | .invokevirtual _ | .invokestatic _ | .invokespecial _ | .new _ | .anewarray _ | .ifnull _ | .ifnonnull _ | .getstatic _ => 3
  | .multianewarray _ _ => 4
  | _ => 1
def m_tgt : Instr → Option Int
  | .goto o => some o
  | .if_icmp _ o => some o
  | .ifCond _ o => some o
  | _ => none
/-- a constant that an instruction bears: its value, and whether it is not below 0 -/
def m_cv : Instr → Option (Int32 × Bool)
  | .iconst n => some (Int32.ofInt n, decide (0 ≤ n))
  | .bipush n => some ((Int8.ofInt n).toInt32, decide (0 ≤ n))
  | .sipush n => some ((Int16.ofInt n).toInt32, decide (0 ≤ n))
  | .iinc _ n => some (Int32.ofInt n, decide (0 ≤ n))
  | _ => none
def m_sw : Instr → Bool
  | .tableswitch _ _ _ _ => true
  | .lookupswitch _ _ => true
  | _ => false
def m_okI (b : ByteArray) (q : Nat × Instr × Nat) : Bool := match decode b q.1 with
  | .ok (i, n) => decide (i = q.2.1) && (decide (n = m_len i) || m_sw i) && (match m_tgt i with
    | none => true
    | some o => decide ((q.1 : Int) + o = (q.2.2 : Int))) && (match m_cv i with
    | none => true
    | some (v, b) => decide (v = bif b then nI q.2.2 else -nI q.2.2))
  | _ => false
def m_okM (M : mM) : Bool := decide (m_owns.getD M.2.2.2.2.2.1 "" = M.1.cls) && (m_tb M).all (m_okI M.2.1)
/-- the words of a call -/
def m_ar1 (M' : mM) (n : Nat) : Bool := match parseMethodDescriptor M'.1.desc with
  | some sig => decide (sig.parameters.length = n)
  | none => true
def m_cw0 (M' : mM) (n : Nat) : Bool := m_in (m_w1 M') && m_in (.initialized M'.1.cls) && Nat.ble M'.2.2.1 49 && m_ar1 M' n && decide (M'.1.cls ≠ "java/lang/invoke/MethodHandle") && decide (M'.1.cls ≠ "java/lang/invoke/VarHandle")
def m_cwS (cl : String) (i : Nat) (M' : mM) (n : Nat) : Bool := m_cw0 M' n && m_in (.methodLink cl i M'.1) && m_in (.static M'.1)
def m_cwV (cl : String) (i : Nat) (M' : mM) (n : Nat) : Bool := m_cw0 M' n && m_in (.methodLink cl i M'.1) && m_in (.instanceMethod M'.1) && m_in (.selects M'.1.cls M'.1 M'.1)
def m_cwI (cl : String) (i : Nat) (M' : mM) (n : Nat) : Bool := m_cw0 M' n && m_in (.methodLink cl i M'.1) && m_in (.instanceMethod M'.1) && decide (M'.1.name = "<init>") && decide (M'.2.2.2.1 = none)
def m_cwN (cl : String) (i : Nat) (M' : mM) (n : Nat) : Bool := m_cw0 M' n && m_in (.methodLinkNest cl i M'.1 "LandUses") && m_in (.instanceMethod M'.1) && decide (M'.1.name = "<init>") && decide (M'.2.2.2.1 = none)
def m_oi (cl : String) (i : Nat) : Bool := m_in (.methodLink cl i objectInit) && m_in (.instanceMethod objectInit) && m_in (.code objectInit ⟨#[0xb1]⟩ 1 none)
def m_nw (cl : String) (i ci : Nat) : Bool := match m_cl[ci]? with
  | some r => m_in (.classLink cl i r.1) && m_in (.instantiable r.1 r.2.2) && m_in (.initialized r.1)
  | none => false
/-- the words of a throw of a class's exception -/
def m_tw (cl : String) (ik ic : Nat) (nm : String) : Bool := m_in (.classLink cl ik nm) && m_in (.initialized nm) && (vx_atS cl ic nm ["java/lang/RuntimeException", "java/lang/Exception"]).all (fun w => m_in w && vx_ot w) && Bundle.fit nm && vx_ot (.classLink cl ik nm) && vx_ot (.initialized nm)
end
section
def mM_X0_init : mM := (yX0_init, cX0_init, 2, none, [], 0, [(0, .aload_n 0, 0), (1, .invokespecial 3, 0), (4, .aload_n 0, 0), (5, .bipush 14, 14), (7, .anewarray 9, 0), (10, .putfield 11, 0), (13, .iconst 0, 0), (14, .istore_n 1, 0), (15, .iload_n 1, 0), (16, .bipush 14, 14), (18, .if_icmp .ge 22, 40), (21, .aload_n 0, 0), (22, .getfield 11, 0), (25, .iload_n 1, 0), (26, .new 9, 0), (29, .dup, 0), (30, .invokespecial 17, 0), (33, .aastore, 0), (34, .iinc 1 1, 1), (37, .goto (-22), 15), (40, .aload_n 0, 0), (41, .iconst 0, 0), (42, .putfield 18, 0), (45, .return_, 0)])
theorem mM_X0_init_ok : m_okM mM_X0_init = true := by decide +kernel
def mM_X0_countLaws : mM := (yX0_countLaws, cX0_countLaws, 3, some .int, [], 0, [(0, .iconst 0, 0), (1, .istore_n 1, 0), (2, .iconst 0, 0), (3, .istore_n 2, 0), (4, .iload_n 2, 0), (5, .aload_n 0, 0), (6, .getfield 18, 0), (9, .if_icmp .ge 24, 33), (12, .aload_n 0, 0), (13, .getfield 11, 0), (16, .iload_n 2, 0), (17, .aaload, 0), (18, .invokevirtual 22, 0), (21, .ifCond .eq 6, 27), (24, .iinc 1 1, 1), (27, .iinc 2 1, 1), (30, .goto (-26), 4), (33, .iload_n 1, 0), (34, .ireturn, 0)])
theorem mM_X0_countLaws_ok : m_okM mM_X0_countLaws = true := by decide +kernel
def mM_X0_worthOf : mM := (yX0_worthOf, cX0_worthOf, 4, some .int, [], 0, [(0, .iconst 0, 0), (1, .istore_n 2, 0), (2, .iconst 0, 0), (3, .istore_n 3, 0), (4, .iload_n 3, 0), (5, .aload_n 0, 0), (6, .getfield 18, 0), (9, .if_icmp .ge 22, 31), (12, .iload_n 2, 0), (13, .aload_n 0, 0), (14, .getfield 11, 0), (17, .iload_n 3, 0), (18, .aaload, 0), (19, .aload_n 1, 0), (20, .invokevirtual 26, 0), (23, .iadd, 0), (24, .istore_n 2, 0), (25, .iinc 3 1, 1), (28, .goto (-24), 4), (31, .iload_n 2, 0), (32, .ireturn, 0)])
theorem mM_X0_worthOf_ok : m_okM mM_X0_worthOf = true := by decide +kernel
def mM_X0_worthOfPutting : mM := (yX0_worthOfPutting, cX0_worthOfPutting, 6, some .int, [], 0, [(0, .iconst 0, 0), (1, .istore 4, 0), (3, .iconst 0, 0), (4, .istore 5, 0), (6, .iload 5, 0), (8, .aload_n 0, 0), (9, .getfield 18, 0), (12, .if_icmp .ge 27, 39), (15, .iload 4, 0), (17, .aload_n 0, 0), (18, .getfield 11, 0), (21, .iload 5, 0), (23, .aaload, 0), (24, .aload_n 1, 0), (25, .iload_n 2, 0), (26, .iload_n 3, 0), (27, .invokevirtual 30, 0), (30, .iadd, 0), (31, .istore 4, 0), (33, .iinc 5 1, 1), (36, .goto (-30), 6), (39, .iload 4, 0), (41, .ireturn, 0)])
theorem mM_X0_worthOfPutting_ok : m_okM mM_X0_worthOfPutting = true := by decide +kernel
def mM_X0_firstBroken : mM := (yX0_firstBroken, cX0_firstBroken, 3, some .int, [], 0, [(0, .iconst 0, 0), (1, .istore_n 2, 0), (2, .iload_n 2, 0), (3, .aload_n 0, 0), (4, .getfield 18, 0), (7, .if_icmp .ge 24, 31), (10, .aload_n 0, 0), (11, .getfield 11, 0), (14, .iload_n 2, 0), (15, .aaload, 0), (16, .aload_n 1, 0), (17, .invokevirtual 34, 0), (20, .ifCond .eq 5, 25), (23, .iload_n 2, 0), (24, .ireturn, 0), (25, .iinc 2 1, 1), (28, .goto (-26), 2), (31, .iconst (-1), 1), (32, .ireturn, 0)])
theorem mM_X0_firstBroken_ok : m_okM mM_X0_firstBroken = true := by decide +kernel
def mM_X0_brokenByPair : mM := (yX0_brokenByPair, cX0_brokenByPair, 4, some .int, [], 0, [(0, .iconst 0, 0), (1, .istore_n 2, 0), (2, .iconst 0, 0), (3, .istore_n 3, 0), (4, .iload_n 3, 0), (5, .aload_n 0, 0), (6, .getfield 18, 0), (9, .if_icmp .ge 28, 37), (12, .aload_n 0, 0), (13, .getfield 11, 0), (16, .iload_n 3, 0), (17, .aaload, 0), (18, .aload_n 1, 0), (19, .invokevirtual 38, 0), (22, .ifCond .eq 9, 31), (25, .iload_n 2, 0), (26, .iconst 1, 1), (27, .iload_n 3, 0), (28, .ishl, 0), (29, .ior, 0), (30, .istore_n 2, 0), (31, .iinc 3 1, 1), (34, .goto (-30), 4), (37, .iload_n 2, 0), (38, .ireturn, 0)])
theorem mM_X0_brokenByPair_ok : m_okM mM_X0_brokenByPair = true := by decide +kernel
def mM_X0_brokenByPutting : mM := (yX0_brokenByPutting, cX0_brokenByPutting, 6, some .int, [], 0, [(0, .iconst 0, 0), (1, .istore 4, 0), (3, .iconst 0, 0), (4, .istore 5, 0), (6, .iload 5, 0), (8, .aload_n 0, 0), (9, .getfield 18, 0), (12, .if_icmp .ge 34, 46), (15, .aload_n 0, 0), (16, .getfield 11, 0), (19, .iload 5, 0), (21, .aaload, 0), (22, .aload_n 1, 0), (23, .iload_n 2, 0), (24, .iload_n 3, 0), (25, .invokevirtual 41, 0), (28, .ifCond .eq 12, 40), (31, .iload 4, 0), (33, .iconst 1, 1), (34, .iload 5, 0), (36, .ishl, 0), (37, .ior, 0), (38, .istore 4, 0), (40, .iinc 5 1, 1), (43, .goto (-37), 6), (46, .iload 4, 0), (48, .ireturn, 0)])
theorem mM_X0_brokenByPutting_ok : m_okM mM_X0_brokenByPutting = true := by decide +kernel
def mM_X0_brokenByWhole : mM := (yX0_brokenByWhole, cX0_brokenByWhole, 4, some .int, [], 0, [(0, .iconst 0, 0), (1, .istore_n 2, 0), (2, .iconst 0, 0), (3, .istore_n 3, 0), (4, .iload_n 3, 0), (5, .aload_n 0, 0), (6, .getfield 18, 0), (9, .if_icmp .ge 28, 37), (12, .aload_n 0, 0), (13, .getfield 11, 0), (16, .iload_n 3, 0), (17, .aaload, 0), (18, .aload_n 1, 0), (19, .invokevirtual 45, 0), (22, .ifCond .eq 9, 31), (25, .iload_n 2, 0), (26, .iconst 1, 1), (27, .iload_n 3, 0), (28, .ishl, 0), (29, .ior, 0), (30, .istore_n 2, 0), (31, .iinc 3 1, 1), (34, .goto (-30), 4), (37, .iload_n 2, 0), (38, .ireturn, 0)])
theorem mM_X0_brokenByWhole_ok : m_okM mM_X0_brokenByWhole = true := by decide +kernel
def mM_X0_growInto : mM := (yX0_growInto, cX0_growInto, 5, none, [], 0, [(0, .aload_n 1, 0), (1, .aload_n 2, 0), (2, .getfield 48, 0), (5, .invokevirtual 54, 0), (8, .iconst 0, 0), (9, .istore_n 3, 0), (10, .iload_n 3, 0), (11, .bipush 60, 60), (13, .if_icmp .ge 64, 77), (16, .iconst 0, 0), (17, .istore 4, 0), (19, .iload 4, 0), (21, .aload_n 0, 0), (22, .getfield 18, 0), (25, .if_icmp .ge 46, 71), (28, .aload_n 0, 0), (29, .getfield 11, 0), (32, .iload 4, 0), (34, .aaload, 0), (35, .aload_n 2, 0), (36, .iload_n 3, 0), (37, .invokevirtual 60, 0), (40, .ifCond .eq 25, 65), (43, .aload_n 1, 0), (44, .iload_n 3, 0), (45, .invokestatic 64, 0), (48, .aload_n 0, 0), (49, .getfield 11, 0), (52, .iload 4, 0), (54, .aaload, 0), (55, .getfield 70, 0), (58, .invokevirtual 73, 0), (61, .pop, 0), (62, .goto 9, 71), (65, .iinc 4 1, 1), (68, .goto (-49), 19), (71, .iinc 3 1, 1), (74, .goto (-64), 10), (77, .return_, 0)])
theorem mM_X0_growInto_ok : m_okM mM_X0_growInto = true := by decide +kernel
def mM_X1_init : mM := (yX1_init, cX1_init, 3, none, [], 1, [(0, .aload_n 0, 0), (1, .invokespecial 3, 0), (4, .aload_n 0, 0), (5, .new 9, 0), (8, .dup, 0), (9, .invokespecial 11, 0), (12, .putfield 12, 0), (15, .aload_n 0, 0), (16, .bipush 60, 60), (18, .newarray .int, 0), (20, .putfield 18, 0), (23, .aload_n 0, 0), (24, .bipush 6, 6), (26, .bipush 60, 60), (28, .multianewarray 22 2, 0), (32, .putfield 24, 0), (35, .iconst 0, 0), (36, .istore_n 1, 0), (37, .iload_n 1, 0), (38, .iconst 5, 5), (39, .if_icmp .gt 36, 75), (42, .iconst 0, 0), (43, .istore_n 2, 0), (44, .iload_n 2, 0), (45, .bipush 60, 60), (47, .if_icmp .ge 22, 69), (50, .aload_n 0, 0), (51, .getfield 24, 0), (54, .iload_n 1, 0), (55, .aaload, 0), (56, .iload_n 2, 0), (57, .iload_n 2, 0), (58, .iload_n 1, 0), (59, .invokestatic 27, 0), (62, .lastore, 0), (63, .iinc 2 1, 1), (66, .goto (-22), 44), (69, .iinc 1 1, 1), (72, .goto (-35), 37), (75, .return_, 0)])
theorem mM_X1_init_ok : m_okM mM_X1_init = true := by decide +kernel
def mM_X1_init_ : mM := (yX1_init_, cX1_init_, 2, none, [], 1, [(0, .aload_n 0, 0), (1, .invokespecial 3, 0), (4, .aload_n 0, 0), (5, .new 9, 0), (8, .dup, 0), (9, .invokespecial 11, 0), (12, .putfield 12, 0), (15, .aload_n 0, 0), (16, .aload_n 1, 0), (17, .getfield 18, 0), (20, .putfield 18, 0), (23, .aload_n 0, 0), (24, .aload_n 1, 0), (25, .getfield 24, 0), (28, .putfield 24, 0), (31, .return_, 0)])
theorem mM_X1_init__ok : m_okM mM_X1_init_ = true := by decide +kernel
def mM_X1_putSoil : mM := (yX1_putSoil, cX1_putSoil, 5, none, [], 1, [(0, .iconst 0, 0), (1, .istore 4, 0), (3, .iload 4, 0), (5, .bipush 60, 60), (7, .if_icmp .ge 26, 33), (10, .lload_n 1, 0), (11, .iload 4, 0), (13, .invokestatic 32, 0), (16, .ifCond .eq 11, 27), (19, .aload_n 0, 0), (20, .getfield 18, 0), (23, .iload 4, 0), (25, .iload_n 3, 0), (26, .iastore, 0), (27, .iinc 4 1, 1), (30, .goto (-27), 3), (33, .return_, 0)])
theorem mM_X1_putSoil_ok : m_okM mM_X1_putSoil = true := by decide +kernel
def mM_X1_countAround : mM := (yX1_countAround, cX1_countAround, 4, some .int, [], 1, [(0, .aload_n 0, 0), (1, .getfield 24, 0), (4, .iload_n 2, 0), (5, .aaload, 0), (6, .iload_n 1, 0), (7, .laload, 0), (8, .aload_n 0, 0), (9, .getfield 12, 0), (12, .getfield 36, 0), (15, .iload_n 3, 0), (16, .laload, 0), (17, .land, 0), (18, .invokestatic 40, 0), (21, .ireturn, 0)])
theorem mM_X1_countAround_ok : m_okM mM_X1_countAround = true := by decide +kernel
def mM_X1_countPairs : mM := (yX1_countPairs, cX1_countPairs, 8, some .int, [], 1, [(0, .aload_n 0, 0), (1, .getfield 12, 0), (4, .iload_n 1, 0), (5, .invokevirtual 46, 0), (8, .lstore 4, 0), (10, .iconst 0, 0), (11, .istore 6, 0), (13, .iconst 0, 0), (14, .istore 7, 0), (16, .iload 7, 0), (18, .bipush 60, 60), (20, .if_icmp .ge 32, 52), (23, .lload 4, 0), (25, .iload 7, 0), (27, .invokestatic 32, 0), (30, .ifCond .eq 16, 46), (33, .iload 6, 0), (35, .aload_n 0, 0), (36, .iload 7, 0), (38, .iload_n 3, 0), (39, .iload_n 2, 0), (40, .invokevirtual 50, 0), (43, .iadd, 0), (44, .istore 6, 0), (46, .iinc 7 1, 1), (49, .goto (-33), 16), (52, .iload 6, 0), (54, .ireturn, 0)])
theorem mM_X1_countPairs_ok : m_okM mM_X1_countPairs = true := by decide +kernel
def mM_X1_countOnSoil : mM := (yX1_countOnSoil, cX1_countOnSoil, 7, some .int, [], 1, [(0, .aload_n 0, 0), (1, .getfield 12, 0), (4, .iload_n 1, 0), (5, .invokevirtual 46, 0), (8, .lstore_n 3, 0), (9, .iconst 0, 0), (10, .istore 5, 0), (12, .iconst 0, 0), (13, .istore 6, 0), (15, .iload 6, 0), (17, .bipush 60, 60), (19, .if_icmp .ge 32, 51), (22, .lload_n 3, 0), (23, .iload 6, 0), (25, .invokestatic 32, 0), (28, .ifCond .eq 17, 45), (31, .aload_n 0, 0), (32, .getfield 18, 0), (35, .iload 6, 0), (37, .iaload, 0), (38, .iload_n 2, 0), (39, .if_icmp .lt 6, 45), (42, .iinc 5 1, 1), (45, .iinc 6 1, 1), (48, .goto (-33), 15), (51, .iload 5, 0), (53, .ireturn, 0)])
theorem mM_X1_countOnSoil_ok : m_okM mM_X1_countOnSoil = true := by decide +kernel
def mM_X2_init : mM := (yX2_init, cX2_init, 1, none, [], 2, [(0, .aload_n 0, 0), (1, .invokespecial 1, 0), (4, .return_, 0)])
theorem mM_X2_init_ok : m_okM mM_X2_init = true := by decide +kernel
def mM_X2_isLaw : mM := (yX2_isLaw, cX2_isLaw, 1, some .boolean, [], 2, [(0, .aload_n 0, 0), (1, .getfield 7, 0), (4, .iconst 2, 2), (5, .if_icmp .eq 27, 32), (8, .aload_n 0, 0), (9, .getfield 7, 0), (12, .iconst 3, 3), (13, .if_icmp .eq 19, 32), (16, .aload_n 0, 0), (17, .getfield 7, 0), (20, .iconst 4, 4), (21, .if_icmp .eq 11, 32), (24, .aload_n 0, 0), (25, .getfield 7, 0), (28, .iconst 5, 5), (29, .if_icmp .ne 7, 36), (32, .iconst 1, 1), (33, .goto 4, 37), (36, .iconst 0, 0), (37, .ireturn, 0)])
theorem mM_X2_isLaw_ok : m_okM mM_X2_isLaw = true := by decide +kernel
def mM_X2_worthOf : mM := (yX2_worthOf, cX2_worthOf, 2, some .int, [], 2, [(0, .aload_n 0, 0), (1, .getfield 7, 0), (4, .lookupswitch 68 #[(0, 28), (1, 50)], 0), (32, .aload_n 0, 0), (33, .getfield 13, 0), (36, .aload_n 1, 0), (37, .aload_n 0, 0), (38, .getfield 16, 0), (41, .aload_n 0, 0), (42, .getfield 19, 0), (45, .aload_n 0, 0), (46, .getfield 22, 0), (49, .invokevirtual 25, 0), (52, .imul, 0), (53, .ireturn, 0), (54, .aload_n 0, 0), (55, .getfield 13, 0), (58, .aload_n 1, 0), (59, .aload_n 0, 0), (60, .getfield 16, 0), (63, .aload_n 0, 0), (64, .getfield 31, 0), (67, .invokevirtual 34, 0), (70, .imul, 0), (71, .ireturn, 0), (72, .iconst 0, 0), (73, .ireturn, 0)])
theorem mM_X2_worthOf_ok : m_okM mM_X2_worthOf = true := by decide +kernel
def mM_X2_worthOfPutting : mM := (yX2_worthOfPutting, cX2_worthOfPutting, 4, some .int, [], 2, [(0, .aload_n 0, 0), (1, .getfield 7, 0), (4, .ifCond .ne 29, 33), (7, .aload_n 0, 0), (8, .getfield 13, 0), (11, .aload_n 0, 0), (12, .aload_n 1, 0), (13, .getfield 38, 0), (16, .aload_n 0, 0), (17, .getfield 22, 0), (20, .aaload, 0), (21, .iload_n 2, 0), (22, .laload, 0), (23, .aload_n 1, 0), (24, .getfield 42, 0), (27, .iload_n 3, 0), (28, .invokevirtual 46, 0), (31, .imul, 0), (32, .ireturn, 0), (33, .aload_n 0, 0), (34, .getfield 7, 0), (37, .iconst 1, 1), (38, .if_icmp .ne 29, 67), (41, .iload_n 3, 0), (42, .aload_n 0, 0), (43, .getfield 16, 0), (46, .if_icmp .ne 21, 67), (49, .aload_n 1, 0), (50, .getfield 50, 0), (53, .iload_n 2, 0), (54, .iaload, 0), (55, .aload_n 0, 0), (56, .getfield 31, 0), (59, .if_icmp .lt 8, 67), (62, .aload_n 0, 0), (63, .getfield 13, 0), (66, .ireturn, 0), (67, .iconst 0, 0), (68, .ireturn, 0)])
theorem mM_X2_worthOfPutting_ok : m_okM mM_X2_worthOfPutting = true := by decide +kernel
def mM_X2_isBroken : mM := (yX2_isBroken, cX2_isBroken, 2, some .boolean, [], 2, [(0, .aload_n 0, 0), (1, .getfield 7, 0), (4, .iconst 2, 2), (5, .if_icmp .ne 11, 16), (8, .aload_n 0, 0), (9, .aload_n 1, 0), (10, .invokevirtual 54, 0), (13, .goto 8, 21), (16, .aload_n 0, 0), (17, .aload_n 1, 0), (18, .invokevirtual 58, 0), (21, .ireturn, 0)])
theorem mM_X2_isBroken_ok : m_okM mM_X2_isBroken = true := by decide +kernel
def mM_X2_isBrokenByPair : mM := (yX2_isBrokenByPair, cX2_isBrokenByPair, 2, some .boolean, [], 2, [(0, .aload_n 0, 0), (1, .getfield 7, 0), (4, .iconst 2, 2), (5, .if_icmp .ne 28, 33), (8, .aload_n 1, 0), (9, .aload_n 0, 0), (10, .getfield 16, 0), (13, .aload_n 0, 0), (14, .getfield 19, 0), (17, .aload_n 0, 0), (18, .getfield 22, 0), (21, .iconst 1, 1), (22, .isub, 0), (23, .invokevirtual 25, 0), (26, .ifCond .le 7, 33), (29, .iconst 1, 1), (30, .goto 4, 34), (33, .iconst 0, 0), (34, .ireturn, 0)])
theorem mM_X2_isBrokenByPair_ok : m_okM mM_X2_isBrokenByPair = true := by decide +kernel
def mM_X2_isBrokenByPutting : mM := (yX2_isBrokenByPutting, cX2_isBrokenByPutting, 4, some .boolean, [], 2, [(0, .aload_n 0, 0), (1, .getfield 7, 0), (4, .iconst 2, 2), (5, .if_icmp .ne 32, 37), (8, .aload_n 0, 0), (9, .aload_n 1, 0), (10, .getfield 38, 0), (13, .aload_n 0, 0), (14, .getfield 22, 0), (17, .iconst 1, 1), (18, .isub, 0), (19, .aaload, 0), (20, .iload_n 2, 0), (21, .laload, 0), (22, .aload_n 1, 0), (23, .getfield 42, 0), (26, .iload_n 3, 0), (27, .invokevirtual 46, 0), (30, .ifCond .le 7, 37), (33, .iconst 1, 1), (34, .goto 4, 38), (37, .iconst 0, 0), (38, .ireturn, 0)])
theorem mM_X2_isBrokenByPutting_ok : m_okM mM_X2_isBrokenByPutting = true := by decide +kernel
def mM_X2_countNewPairs : mM := (yX2_countNewPairs, cX2_countNewPairs, 6, some .int, [], 2, [(0, .iconst 0, 0), (1, .istore 5, 0), (3, .iload 4, 0), (5, .aload_n 0, 0), (6, .getfield 16, 0), (9, .if_icmp .ne 22, 31), (12, .iload 5, 0), (14, .lload_n 1, 0), (15, .aload_n 3, 0), (16, .getfield 61, 0), (19, .aload_n 0, 0), (20, .getfield 19, 0), (23, .laload, 0), (24, .land, 0), (25, .invokestatic 67, 0), (28, .iadd, 0), (29, .istore 5, 0), (31, .iload 4, 0), (33, .aload_n 0, 0), (34, .getfield 19, 0), (37, .if_icmp .ne 22, 59), (40, .iload 5, 0), (42, .lload_n 1, 0), (43, .aload_n 3, 0), (44, .getfield 61, 0), (47, .aload_n 0, 0), (48, .getfield 16, 0), (51, .laload, 0), (52, .land, 0), (53, .invokestatic 67, 0), (56, .iadd, 0), (57, .istore 5, 0), (59, .iload 5, 0), (61, .ireturn, 0)])
theorem mM_X2_countNewPairs_ok : m_okM mM_X2_countNewPairs = true := by decide +kernel
def mM_X2_isBrokenByWhole : mM := (yX2_isBrokenByWhole, cX2_isBrokenByWhole, 4, some .boolean, [], 2, [(0, .aload_n 1, 0), (1, .getfield 42, 0), (4, .aload_n 0, 0), (5, .getfield 16, 0), (8, .invokevirtual 73, 0), (11, .lstore_n 2, 0), (12, .aload_n 0, 0), (13, .getfield 7, 0), (16, .tableswitch 75 3 5 #[28, 45, 62], 0), (44, .lload_n 2, 0), (45, .invokestatic 67, 0), (48, .aload_n 0, 0), (49, .getfield 13, 0), (52, .if_icmp .ge 7, 59), (55, .iconst 1, 1), (56, .goto 4, 60), (59, .iconst 0, 0), (60, .ireturn, 0), (61, .lload_n 2, 0), (62, .invokestatic 67, 0), (65, .aload_n 0, 0), (66, .getfield 13, 0), (69, .if_icmp .le 7, 76), (72, .iconst 1, 1), (73, .goto 4, 77), (76, .iconst 0, 0), (77, .ireturn, 0), (78, .lload_n 2, 0), (79, .invokestatic 77, 0), (82, .ifCond .ne 7, 89), (85, .iconst 1, 1), (86, .goto 4, 90), (89, .iconst 0, 0), (90, .ireturn, 0), (91, .iconst 0, 0), (92, .ireturn, 0)])
theorem mM_X2_isBrokenByWhole_ok : m_okM mM_X2_isBrokenByWhole = true := by decide +kernel
def mM_X2_growsOn : mM := (yX2_growsOn, cX2_growsOn, 3, some .boolean, [], 2, [(0, .aload_n 0, 0), (1, .getfield 7, 0), (4, .bipush 6, 6), (6, .if_icmp .ne 45, 51), (9, .aload_n 1, 0), (10, .getfield 42, 0), (13, .aload_n 0, 0), (14, .getfield 16, 0), (17, .invokevirtual 73, 0), (20, .iload_n 2, 0), (21, .invokestatic 83, 0), (24, .ifCond .eq 27, 51), (27, .aload_n 1, 0), (28, .iload_n 2, 0), (29, .aload_n 0, 0), (30, .getfield 22, 0), (33, .aload_n 0, 0), (34, .getfield 19, 0), (37, .invokevirtual 87, 0), (40, .aload_n 0, 0), (41, .getfield 13, 0), (44, .if_icmp .lt 7, 51), (47, .iconst 1, 1), (48, .goto 4, 52), (51, .iconst 0, 0), (52, .ireturn, 0)])
theorem mM_X2_growsOn_ok : m_okM mM_X2_growsOn = true := by decide +kernel
def mM_X3_init : mM := (yX3_init, cX3_init, 2, none, [], 3, [(0, .aload_n 0, 0), (1, .invokespecial 3, 0), (4, .aload_n 0, 0), (5, .aload_n 1, 0), (6, .putfield 9, 0), (9, .aload_n 0, 0), (10, .iconst 0, 0), (11, .putfield 15, 0), (14, .aload_n 0, 0), (15, .iconst (-1), 1), (16, .putfield 19, 0), (19, .return_, 0)])
theorem mM_X3_init_ok : m_okM mM_X3_init = true := by decide +kernel
def mM_X3_readInto : mM := (yX3_readInto, cX3_readInto, 3, some .int, [], 3, [(0, .aload_n 0, 0), (1, .iconst 0, 0), (2, .putfield 15, 0), (5, .aload_n 0, 0), (6, .iconst (-1), 1), (7, .putfield 19, 0), (10, .aload_n 1, 0), (11, .iconst 0, 0), (12, .putfield 22, 0), (15, .aload_n 0, 0), (16, .invokevirtual 27, 0), (19, .aload_n 0, 0), (20, .getfield 9, 0), (23, .aload_n 0, 0), (24, .getfield 15, 0), (27, .invokevirtual 30, 0), (30, .iconst (-1), 1), (31, .if_icmp .eq 7, 38), (34, .iconst 1, 1), (35, .goto 4, 39), (38, .iconst 0, 0), (39, .istore_n 2, 0), (40, .iload_n 2, 0), (41, .ifCond .eq 43, 84), (44, .aload_n 1, 0), (45, .getfield 22, 0), (48, .bipush 14, 14), (50, .if_icmp .ge 34, 84), (53, .aload_n 0, 0), (54, .aload_n 1, 0), (55, .getfield 36, 0), (58, .aload_n 1, 0), (59, .getfield 22, 0), (62, .aaload, 0), (63, .invokevirtual 40, 0), (66, .aload_n 1, 0), (67, .dup, 0), (68, .getfield 22, 0), (71, .iconst 1, 1), (72, .iadd, 0), (73, .putfield 22, 0), (76, .aload_n 0, 0), (77, .invokevirtual 44, 0), (80, .istore_n 2, 0), (81, .goto (-41), 40), (84, .iload_n 2, 0), (85, .ifCond .eq 11, 96), (88, .aload_n 0, 0), (89, .invokevirtual 27, 0), (92, .aload_n 0, 0), (93, .invokevirtual 48, 0), (96, .aload_n 0, 0), (97, .getfield 19, 0), (100, .ireturn, 0)])
theorem mM_X3_readInto_ok : m_okM mM_X3_readInto = true := by decide +kernel
def mM_X3_readSemicolon : mM := (yX3_readSemicolon, cX3_readSemicolon, 1, some .boolean, [], 3, [(0, .aload_n 0, 0), (1, .invokevirtual 27, 0), (4, .aload_n 0, 0), (5, .getfield 19, 0), (8, .iconst (-1), 1), (9, .if_icmp .ne 18, 27), (12, .aload_n 0, 0), (13, .getfield 9, 0), (16, .aload_n 0, 0), (17, .getfield 15, 0), (20, .invokevirtual 30, 0), (23, .iconst (-1), 1), (24, .if_icmp .ne 5, 29), (27, .iconst 0, 0), (28, .ireturn, 0), (29, .aload_n 0, 0), (30, .getfield 9, 0), (33, .aload_n 0, 0), (34, .getfield 15, 0), (37, .invokevirtual 30, 0), (40, .bipush 59, 59), (42, .if_icmp .eq 9, 51), (45, .aload_n 0, 0), (46, .invokevirtual 48, 0), (49, .iconst 0, 0), (50, .ireturn, 0), (51, .aload_n 0, 0), (52, .dup, 0), (53, .getfield 15, 0), (56, .iconst 1, 1), (57, .iadd, 0), (58, .putfield 15, 0), (61, .iconst 1, 1), (62, .ireturn, 0)])
theorem mM_X3_readSemicolon_ok : m_okM mM_X3_readSemicolon = true := by decide +kernel
def mM_X3_readLine : mM := (yX3_readLine, cX3_readLine, 2, none, [], 3, [(0, .aload_n 0, 0), (1, .ldc 51, 0), (3, .invokevirtual 53, 0), (6, .ifCond .eq 11, 17), (9, .aload_n 0, 0), (10, .aload_n 1, 0), (11, .invokevirtual 57, 0), (14, .goto 25, 39), (17, .aload_n 0, 0), (18, .ldc 60, 0), (20, .invokevirtual 53, 0), (23, .ifCond .eq 11, 34), (26, .aload_n 0, 0), (27, .aload_n 1, 0), (28, .invokevirtual 62, 0), (31, .goto 8, 39), (34, .aload_n 0, 0), (35, .aload_n 1, 0), (36, .invokevirtual 65, 0), (39, .return_, 0)])
theorem mM_X3_readLine_ok : m_okM mM_X3_readLine = true := by decide +kernel
def mM_X3_readWorth : mM := (yX3_readWorth, cX3_readWorth, 3, none, [], 3, [(0, .aload_n 1, 0), (1, .aload_n 0, 0), (2, .invokevirtual 68, 0), (5, .putfield 72, 0), (8, .aload_n 0, 0), (9, .ldc 77, 0), (11, .invokevirtual 53, 0), (14, .ifCond .eq 7, 21), (17, .iconst (-1), 1), (18, .goto 4, 22), (21, .iconst 1, 1), (22, .istore_n 2, 0), (23, .aload_n 1, 0), (24, .iload_n 2, 0), (25, .aload_n 0, 0), (26, .iconst 0, 0), (27, .bipush 99, 99), (29, .invokevirtual 79, 0), (32, .imul, 0), (33, .putfield 83, 0), (36, .aload_n 0, 0), (37, .ldc 86, 0), (39, .invokevirtual 53, 0), (42, .ifCond .eq 29, 71), (45, .aload_n 1, 0), (46, .iconst 0, 0), (47, .putfield 88, 0), (50, .aload_n 1, 0), (51, .aload_n 0, 0), (52, .invokevirtual 68, 0), (55, .putfield 91, 0), (58, .aload_n 1, 0), (59, .aload_n 0, 0), (60, .iconst 1, 1), (61, .iconst 5, 5), (62, .invokevirtual 79, 0), (65, .putfield 94, 0), (68, .goto 35, 103), (71, .aload_n 0, 0), (72, .ldc 97, 0), (74, .invokevirtual 53, 0), (77, .ifCond .eq 22, 99), (80, .aload_n 1, 0), (81, .iconst 1, 1), (82, .putfield 88, 0), (85, .aload_n 1, 0), (86, .aload_n 0, 0), (87, .iconst 0, 0), (88, .bipush 9, 9), (90, .invokevirtual 79, 0), (93, .putfield 99, 0), (96, .goto 7, 103), (99, .aload_n 0, 0), (100, .invokevirtual 48, 0), (103, .return_, 0)])
theorem mM_X3_readWorth_ok : m_okM mM_X3_readWorth = true := by decide +kernel
def mM_X3_readLaw : mM := (yX3_readLaw, cX3_readLaw, 2, none, [], 3, [(0, .aload_n 1, 0), (1, .aload_n 0, 0), (2, .invokevirtual 68, 0), (5, .putfield 72, 0), (8, .aload_n 0, 0), (9, .ldc 102, 0), (11, .invokevirtual 53, 0), (14, .ifCond .eq 29, 43), (17, .aload_n 1, 0), (18, .iconst 2, 2), (19, .putfield 88, 0), (22, .aload_n 1, 0), (23, .aload_n 0, 0), (24, .invokevirtual 68, 0), (27, .putfield 91, 0), (30, .aload_n 1, 0), (31, .aload_n 0, 0), (32, .iconst 1, 1), (33, .iconst 5, 5), (34, .invokevirtual 79, 0), (37, .putfield 94, 0), (40, .goto 80, 120), (43, .aload_n 0, 0), (44, .ldc 104, 0), (46, .invokevirtual 53, 0), (49, .ifCond .eq 22, 71), (52, .aload_n 1, 0), (53, .iconst 3, 3), (54, .putfield 88, 0), (57, .aload_n 1, 0), (58, .aload_n 0, 0), (59, .iconst 0, 0), (60, .bipush 99, 99), (62, .invokevirtual 79, 0), (65, .putfield 83, 0), (68, .goto 52, 120), (71, .aload_n 0, 0), (72, .ldc 106, 0), (74, .invokevirtual 53, 0), (77, .ifCond .eq 22, 99), (80, .aload_n 1, 0), (81, .iconst 4, 4), (82, .putfield 88, 0), (85, .aload_n 1, 0), (86, .aload_n 0, 0), (87, .iconst 0, 0), (88, .bipush 99, 99), (90, .invokevirtual 79, 0), (93, .putfield 83, 0), (96, .goto 24, 120), (99, .aload_n 0, 0), (100, .ldc 108, 0), (102, .invokevirtual 53, 0), (105, .ifCond .eq 11, 116), (108, .aload_n 1, 0), (109, .iconst 5, 5), (110, .putfield 88, 0), (113, .goto 7, 120), (116, .aload_n 0, 0), (117, .invokevirtual 48, 0), (120, .return_, 0)])
theorem mM_X3_readLaw_ok : m_okM mM_X3_readLaw = true := by decide +kernel
def mM_X3_readGrow : mM := (yX3_readGrow, cX3_readGrow, 2, none, [], 3, [(0, .aload_n 1, 0), (1, .bipush 6, 6), (3, .putfield 88, 0), (6, .aload_n 1, 0), (7, .aload_n 0, 0), (8, .invokevirtual 68, 0), (11, .putfield 72, 0), (14, .aload_n 0, 0), (15, .ldc 110, 0), (17, .invokevirtual 112, 0), (20, .aload_n 1, 0), (21, .aload_n 0, 0), (22, .invokevirtual 68, 0), (25, .putfield 116, 0), (28, .aload_n 0, 0), (29, .ldc 119, 0), (31, .invokevirtual 112, 0), (34, .aload_n 1, 0), (35, .aload_n 0, 0), (36, .invokevirtual 68, 0), (39, .putfield 91, 0), (42, .aload_n 0, 0), (43, .ldc 86, 0), (45, .invokevirtual 112, 0), (48, .aload_n 1, 0), (49, .aload_n 0, 0), (50, .iconst 1, 1), (51, .iconst 5, 5), (52, .invokevirtual 79, 0), (55, .putfield 94, 0), (58, .aload_n 1, 0), (59, .aload_n 0, 0), (60, .iconst 1, 1), (61, .bipush 60, 60), (63, .invokevirtual 79, 0), (66, .putfield 83, 0), (69, .return_, 0)])
theorem mM_X3_readGrow_ok : m_okM mM_X3_readGrow = true := by decide +kernel
def mM_X3_readUse : mM := (yX3_readUse, cX3_readUse, 1, some .int, [], 3, [(0, .aload_n 0, 0), (1, .ldc 121, 0), (3, .invokevirtual 53, 0), (6, .ifCond .eq 5, 11), (9, .iconst 0, 0), (10, .ireturn, 0), (11, .aload_n 0, 0), (12, .ldc 123, 0), (14, .invokevirtual 53, 0), (17, .ifCond .eq 5, 22), (20, .iconst 1, 1), (21, .ireturn, 0), (22, .aload_n 0, 0), (23, .ldc 125, 0), (25, .invokevirtual 53, 0), (28, .ifCond .eq 5, 33), (31, .iconst 2, 2), (32, .ireturn, 0), (33, .aload_n 0, 0), (34, .ldc 127, 0), (36, .invokevirtual 53, 0), (39, .ifCond .eq 5, 44), (42, .iconst 3, 3), (43, .ireturn, 0), (44, .aload_n 0, 0), (45, .ldc 129, 0), (47, .invokevirtual 53, 0), (50, .ifCond .eq 5, 55), (53, .iconst 4, 4), (54, .ireturn, 0), (55, .aload_n 0, 0), (56, .invokevirtual 48, 0), (59, .iconst 0, 0), (60, .ireturn, 0)])
theorem mM_X3_readUse_ok : m_okM mM_X3_readUse = true := by decide +kernel
def mM_X3_readWord : mM := (yX3_readWord, cX3_readWord, 2, none, [], 3, [(0, .aload_n 0, 0), (1, .aload_n 1, 0), (2, .invokevirtual 53, 0), (5, .ifCond .ne 7, 12), (8, .aload_n 0, 0), (9, .invokevirtual 48, 0), (12, .return_, 0)])
theorem mM_X3_readWord_ok : m_okM mM_X3_readWord = true := by decide +kernel
def mM_X3_readNumber : mM := (yX3_readNumber, cX3_readNumber, 6, some .int, [], 3, [(0, .aload_n 0, 0), (1, .invokevirtual 27, 0), (4, .aload_n 0, 0), (5, .bipush 48, 48), (7, .bipush 57, 57), (9, .invokevirtual 131, 0), (12, .istore_n 3, 0), (13, .iload_n 3, 0), (14, .iconst 1, 1), (15, .if_icmp .lt 8, 23), (18, .iload_n 3, 0), (19, .iconst 2, 2), (20, .if_icmp .le 9, 29), (23, .aload_n 0, 0), (24, .invokevirtual 48, 0), (27, .iload_n 1, 0), (28, .ireturn, 0), (29, .iconst 0, 0), (30, .istore 4, 0), (32, .iconst 0, 0), (33, .istore 5, 0), (35, .iload 5, 0), (37, .iload_n 3, 0), (38, .if_icmp .ge 34, 72), (41, .bipush 10, 10), (43, .iload 4, 0), (45, .imul, 0), (46, .aload_n 0, 0), (47, .getfield 9, 0), (50, .aload_n 0, 0), (51, .getfield 15, 0), (54, .iload 5, 0), (56, .iadd, 0), (57, .invokevirtual 30, 0), (60, .iadd, 0), (61, .bipush 48, 48), (63, .isub, 0), (64, .istore 4, 0), (66, .iinc 5 1, 1), (69, .goto (-34), 35), (72, .iload 4, 0), (74, .iload_n 1, 0), (75, .if_icmp .lt 9, 84), (78, .iload 4, 0), (80, .iload_n 2, 0), (81, .if_icmp .le 9, 90), (84, .aload_n 0, 0), (85, .invokevirtual 48, 0), (88, .iload_n 1, 0), (89, .ireturn, 0), (90, .aload_n 0, 0), (91, .dup, 0), (92, .getfield 15, 0), (95, .iload_n 3, 0), (96, .iadd, 0), (97, .putfield 15, 0), (100, .iload 4, 0), (102, .ireturn, 0)])
theorem mM_X3_readNumber_ok : m_okM mM_X3_readNumber = true := by decide +kernel
def mM_X3_skipWord : mM := (yX3_skipWord, cX3_skipWord, 4, some .boolean, [], 3, [(0, .aload_n 0, 0), (1, .invokevirtual 27, 0), (4, .aload_n 0, 0), (5, .bipush 97, 97), (7, .bipush 122, 122), (9, .invokevirtual 131, 0), (12, .istore_n 2, 0), (13, .iload_n 2, 0), (14, .aload_n 1, 0), (15, .invokevirtual 135, 0), (18, .if_icmp .eq 5, 23), (21, .iconst 0, 0), (22, .ireturn, 0), (23, .iconst 0, 0), (24, .istore_n 3, 0), (25, .iload_n 3, 0), (26, .iload_n 2, 0), (27, .if_icmp .ge 32, 59), (30, .aload_n 0, 0), (31, .getfield 9, 0), (34, .aload_n 0, 0), (35, .getfield 15, 0), (38, .iload_n 3, 0), (39, .iadd, 0), (40, .invokevirtual 30, 0), (43, .aload_n 1, 0), (44, .iload_n 3, 0), (45, .invokevirtual 140, 0), (48, .if_icmp .eq 5, 53), (51, .iconst 0, 0), (52, .ireturn, 0), (53, .iinc 3 1, 1), (56, .goto (-31), 25), (59, .aload_n 0, 0), (60, .dup, 0), (61, .getfield 15, 0), (64, .iload_n 2, 0), (65, .iadd, 0), (66, .putfield 15, 0), (69, .iconst 1, 1), (70, .ireturn, 0)])
theorem mM_X3_skipWord_ok : m_okM mM_X3_skipWord = true := by decide +kernel
def mM_X3_refuseNext : mM := (yX3_refuseNext, cX3_refuseNext, 1, none, [], 3, [(0, .aload_n 0, 0), (1, .getfield 19, 0), (4, .iconst (-1), 1), (5, .if_icmp .ne 11, 16), (8, .aload_n 0, 0), (9, .aload_n 0, 0), (10, .getfield 15, 0), (13, .putfield 19, 0), (16, .return_, 0)])
theorem mM_X3_refuseNext_ok : m_okM mM_X3_refuseNext = true := by decide +kernel
def mM_X3_skipBlanks : mM := (yX3_skipBlanks, cX3_skipBlanks, 1, none, [], 3, [(0, .aload_n 0, 0), (1, .getfield 15, 0), (4, .aload_n 0, 0), (5, .getfield 9, 0), (8, .getfield 144, 0), (11, .if_icmp .ge 32, 43), (14, .aload_n 0, 0), (15, .getfield 9, 0), (18, .aload_n 0, 0), (19, .getfield 15, 0), (22, .invokevirtual 30, 0), (25, .bipush 32, 32), (27, .if_icmp .ne 16, 43), (30, .aload_n 0, 0), (31, .dup, 0), (32, .getfield 15, 0), (35, .iconst 1, 1), (36, .iadd, 0), (37, .putfield 15, 0), (40, .goto (-40), 0), (43, .return_, 0)])
theorem mM_X3_skipBlanks_ok : m_okM mM_X3_skipBlanks = true := by decide +kernel
def mM_X3_runLength : mM := (yX3_runLength, cX3_runLength, 4, some .int, [], 3, [(0, .iconst 0, 0), (1, .istore_n 3, 0), (2, .iload_n 3, 0), (3, .aload_n 0, 0), (4, .getfield 9, 0), (7, .getfield 144, 0), (10, .if_icmp .ge 43, 53), (13, .aload_n 0, 0), (14, .getfield 9, 0), (17, .aload_n 0, 0), (18, .getfield 15, 0), (21, .iload_n 3, 0), (22, .iadd, 0), (23, .invokevirtual 30, 0), (26, .iload_n 1, 0), (27, .if_icmp .lt 26, 53), (30, .aload_n 0, 0), (31, .getfield 9, 0), (34, .aload_n 0, 0), (35, .getfield 15, 0), (38, .iload_n 3, 0), (39, .iadd, 0), (40, .invokevirtual 30, 0), (43, .iload_n 2, 0), (44, .if_icmp .gt 9, 53), (47, .iinc 3 1, 1), (50, .goto (-48), 2), (53, .iload_n 3, 0), (54, .ireturn, 0)])
theorem mM_X3_runLength_ok : m_okM mM_X3_runLength = true := by decide +kernel
def mM_X4_init : mM := (yX4_init, cX4_init, 3, none, [], 4, [(0, .aload_n 0, 0), (1, .invokespecial 3, 0), (4, .aload_n 0, 0), (5, .new 9, 0), (8, .dup, 0), (9, .aload_n 1, 0), (10, .invokespecial 11, 0), (13, .putfield 14, 0), (16, .aload_n 0, 0), (17, .iconst 5, 5), (18, .newarray .int, 0), (20, .putfield 20, 0), (23, .aload_n 0, 0), (24, .new 24, 0), (27, .dup, 0), (28, .invokespecial 26, 0), (31, .putfield 27, 0), (34, .aload_n 0, 0), (35, .bipush 14, 14), (37, .newarray .int, 0), (39, .putfield 31, 0), (42, .aload_n 0, 0), (43, .aload_n 2, 0), (44, .putfield 34, 0), (47, .aload_n 0, 0), (48, .iconst 0, 0), (49, .putfield 38, 0), (52, .aload_n 0, 0), (53, .iconst 0, 0), (54, .putfield 42, 0), (57, .aload_n 0, 0), (58, .iconst 0, 0), (59, .putfield 46, 0), (62, .return_, 0)])
theorem mM_X4_init_ok : m_okM mM_X4_init = true := by decide +kernel
def mM_X4_run : mM := (yX4_run, cX4_run, 6, none, [], 4, [(0, .aload_n 0, 0), (1, .aload_n 2, 0), (2, .putfield 34, 0), (5, .aload_n 0, 0), (6, .iconst 0, 0), (7, .putfield 42, 0), (10, .aload_n 0, 0), (11, .iconst 0, 0), (12, .putfield 46, 0), (15, .iconst 0, 0), (16, .istore 5, 0), (18, .iload 5, 0), (20, .bipush 14, 14), (22, .if_icmp .ge 18, 40), (25, .aload_n 0, 0), (26, .getfield 31, 0), (29, .iload 5, 0), (31, .ldc 51, 0), (33, .iastore, 0), (34, .iinc 5 1, 1), (37, .goto (-19), 18), (40, .aload_n 0, 0), (41, .lload_n 3, 0), (42, .invokevirtual 52, 0), (45, .aload_n 0, 0), (46, .getfield 14, 0), (49, .getfield 56, 0), (52, .aload_n 1, 0), (53, .getfield 56, 0), (56, .invokevirtual 59, 0), (59, .aload_n 0, 0), (60, .getfield 14, 0), (63, .getfield 56, 0), (66, .lload_n 3, 0), (67, .invokevirtual 63, 0), (70, .aload_n 0, 0), (71, .iconst 0, 0), (72, .aload_n 2, 0), (73, .aload_n 0, 0), (74, .getfield 14, 0), (77, .invokevirtual 66, 0), (80, .aload_n 2, 0), (81, .aload_n 0, 0), (82, .getfield 14, 0), (85, .invokevirtual 72, 0), (88, .invokevirtual 75, 0), (91, .return_, 0)])
theorem mM_X4_run_ok : m_okM mM_X4_run = true := by decide +kernel
def mM_X4_listSquares : mM := (yX4_listSquares, cX4_listSquares, 4, none, [], 4, [(0, .aload_n 0, 0), (1, .iconst 0, 0), (2, .putfield 38, 0), (5, .iconst 0, 0), (6, .istore_n 3, 0), (7, .iload_n 3, 0), (8, .bipush 60, 60), (10, .if_icmp .ge 45, 55), (13, .lload_n 1, 0), (14, .iload_n 3, 0), (15, .invokestatic 79, 0), (18, .ifCond .eq 31, 49), (21, .aload_n 0, 0), (22, .getfield 38, 0), (25, .iconst 5, 5), (26, .if_icmp .ge 23, 49), (29, .aload_n 0, 0), (30, .getfield 20, 0), (33, .aload_n 0, 0), (34, .getfield 38, 0), (37, .iload_n 3, 0), (38, .iastore, 0), (39, .aload_n 0, 0), (40, .dup, 0), (41, .getfield 38, 0), (44, .iconst 1, 1), (45, .iadd, 0), (46, .putfield 38, 0), (49, .iinc 3 1, 1), (52, .goto (-45), 7), (55, .return_, 0)])
theorem mM_X4_listSquares_ok : m_okM mM_X4_listSquares = true := by decide +kernel
def mM_X4_putFrom : mM := (yX4_putFrom, cX4_putFrom, 8, none, [], 4, [(0, .iload_n 3, 0), (1, .invokestatic 85, 0), (4, .iconst 1, 1), (5, .if_icmp .le 4, 9), (8, .return_, 0), (9, .iload_n 1, 0), (10, .aload_n 0, 0), (11, .getfield 38, 0), (14, .if_icmp .lt 22, 36), (17, .aload_n 0, 0), (18, .iload_n 2, 0), (19, .iload_n 3, 0), (20, .aload_n 0, 0), (21, .getfield 34, 0), (24, .aload_n 0, 0), (25, .getfield 14, 0), (28, .invokevirtual 89, 0), (31, .ior, 0), (32, .invokevirtual 92, 0), (35, .return_, 0), (36, .aload_n 0, 0), (37, .getfield 20, 0), (40, .iload_n 1, 0), (41, .iaload, 0), (42, .istore 4, 0), (44, .iconst 1, 1), (45, .istore 5, 0), (47, .iload 5, 0), (49, .iconst 4, 4), (50, .if_icmp .gt 91, 141), (53, .aload_n 0, 0), (54, .getfield 34, 0), (57, .aload_n 0, 0), (58, .getfield 14, 0), (61, .iload 4, 0), (63, .iload 5, 0), (65, .invokevirtual 96, 0), (68, .istore 6, 0), (70, .aload_n 0, 0), (71, .getfield 34, 0), (74, .aload_n 0, 0), (75, .getfield 14, 0), (78, .iload 4, 0), (80, .iload 5, 0), (82, .invokevirtual 100, 0), (85, .istore 7, 0), (87, .aload_n 0, 0), (88, .getfield 14, 0), (91, .getfield 56, 0), (94, .iload 4, 0), (96, .invokestatic 103, 0), (99, .iload 5, 0), (101, .invokevirtual 107, 0), (104, .pop, 0), (105, .aload_n 0, 0), (106, .iload_n 1, 0), (107, .iconst 1, 1), (108, .iadd, 0), (109, .iload_n 2, 0), (110, .iload 6, 0), (112, .iadd, 0), (113, .iload_n 3, 0), (114, .iload 7, 0), (116, .ior, 0), (117, .invokevirtual 75, 0), (120, .aload_n 0, 0), (121, .getfield 14, 0), (124, .getfield 56, 0), (127, .iload 4, 0), (129, .invokestatic 103, 0), (132, .invokevirtual 63, 0), (135, .iinc 5 1, 1), (138, .goto (-91), 47), (141, .return_, 0)])
theorem mM_X4_putFrom_ok : m_okM mM_X4_putFrom = true := by decide +kernel
def mM_X4_judge : mM := (yX4_judge, cX4_judge, 4, none, [], 4, [(0, .iload_n 2, 0), (1, .ifCond .ne 42, 43), (4, .aload_n 0, 0), (5, .getfield 42, 0), (8, .ifCond .eq 11, 19), (11, .iload_n 1, 0), (12, .aload_n 0, 0), (13, .getfield 46, 0), (16, .if_icmp .le 27, 43), (19, .aload_n 0, 0), (20, .iconst 1, 1), (21, .putfield 42, 0), (24, .aload_n 0, 0), (25, .iload_n 1, 0), (26, .putfield 46, 0), (29, .aload_n 0, 0), (30, .getfield 27, 0), (33, .aload_n 0, 0), (34, .getfield 14, 0), (37, .getfield 56, 0), (40, .invokevirtual 59, 0), (43, .iconst 0, 0), (44, .istore_n 3, 0), (45, .iload_n 3, 0), (46, .bipush 14, 14), (48, .if_icmp .ge 32, 80), (51, .iload_n 2, 0), (52, .iconst 1, 1), (53, .iload_n 3, 0), (54, .ishl, 0), (55, .if_icmp .ne 19, 74), (58, .aload_n 0, 0), (59, .getfield 31, 0), (62, .iload_n 3, 0), (63, .aload_n 0, 0), (64, .getfield 31, 0), (67, .iload_n 3, 0), (68, .iaload, 0), (69, .iload_n 1, 0), (70, .invokestatic 111, 0), (73, .iastore, 0), (74, .iinc 3 1, 1), (77, .goto (-32), 45), (80, .return_, 0)])
theorem mM_X4_judge_ok : m_okM mM_X4_judge = true := by decide +kernel
def mM_X5_only : mM := (yX5_only, cX5_only, 1, some .long, [], 5, [(0, .lconst 1, 0), (1, .iload_n 0, 0), (2, .lshl, 0), (3, .lreturn, 0)])
theorem mM_X5_only_ok : m_okM mM_X5_only = true := by decide +kernel
def mM_X5_has : mM := (yX5_has, cX5_has, 3, some .boolean, [], 5, [(0, .lload_n 0, 0), (1, .iload_n 2, 0), (2, .invokestatic 11, 0), (5, .land, 0), (6, .lconst 0, 0), (7, .lcmp, 0), (8, .ifCond .eq 7, 15), (11, .iconst 1, 1), (12, .goto 4, 16), (15, .iconst 0, 0), (16, .ireturn, 0)])
theorem mM_X5_has_ok : m_okM mM_X5_has = true := by decide +kernel
def mM_X5_rectangle : mM := (yX5_rectangle, cX5_rectangle, 11, some .long, [], 5, [(0, .iload_n 0, 0), (1, .bipush 10, 10), (3, .irem, 0), (4, .iload_n 1, 0), (5, .bipush 10, 10), (7, .irem, 0), (8, .invokestatic 15, 0), (11, .istore_n 2, 0), (12, .iload_n 0, 0), (13, .bipush 10, 10), (15, .irem, 0), (16, .iload_n 1, 0), (17, .bipush 10, 10), (19, .irem, 0), (20, .invokestatic 21, 0), (23, .istore_n 3, 0), (24, .iload_n 0, 0), (25, .bipush 10, 10), (27, .idiv, 0), (28, .iload_n 1, 0), (29, .bipush 10, 10), (31, .idiv, 0), (32, .invokestatic 15, 0), (35, .istore 4, 0), (37, .iload_n 0, 0), (38, .bipush 10, 10), (40, .idiv, 0), (41, .iload_n 1, 0), (42, .bipush 10, 10), (44, .idiv, 0), (45, .invokestatic 21, 0), (48, .istore 5, 0), (50, .lconst 1, 0), (51, .iload_n 3, 0), (52, .iload_n 2, 0), (53, .isub, 0), (54, .iconst 1, 1), (55, .iadd, 0), (56, .lshl, 0), (57, .lconst 1, 0), (58, .lsub, 0), (59, .iload_n 2, 0), (60, .lshl, 0), (61, .lstore 6, 0), (63, .lconst 0, 0), (64, .lstore 8, 0), (66, .iload 4, 0), (68, .istore 10, 0), (70, .iload 10, 0), (72, .iload 5, 0), (74, .if_icmp .gt 22, 96), (77, .lload 8, 0), (79, .lload 6, 0), (81, .bipush 10, 10), (83, .iload 10, 0), (85, .imul, 0), (86, .lshl, 0), (87, .lor, 0), (88, .lstore 8, 0), (90, .iinc 10 1, 1), (93, .goto (-23), 70), (96, .lload 8, 0), (98, .lreturn, 0)])
theorem mM_X5_rectangle_ok : m_okM mM_X5_rectangle = true := by decide +kernel
def mM_X5_around : mM := (yX5_around, cX5_around, 8, some .long, [], 5, [(0, .iload_n 0, 0), (1, .bipush 10, 10), (3, .irem, 0), (4, .istore_n 2, 0), (5, .iload_n 0, 0), (6, .bipush 10, 10), (8, .idiv, 0), (9, .istore_n 3, 0), (10, .iconst 0, 0), (11, .iload_n 2, 0), (12, .iload_n 1, 0), (13, .isub, 0), (14, .invokestatic 21, 0), (17, .istore 4, 0), (19, .bipush 9, 9), (21, .iload_n 2, 0), (22, .iload_n 1, 0), (23, .iadd, 0), (24, .invokestatic 15, 0), (27, .istore 5, 0), (29, .iconst 0, 0), (30, .iload_n 3, 0), (31, .iload_n 1, 0), (32, .isub, 0), (33, .invokestatic 21, 0), (36, .istore 6, 0), (38, .iconst 5, 5), (39, .iload_n 3, 0), (40, .iload_n 1, 0), (41, .iadd, 0), (42, .invokestatic 15, 0), (45, .istore 7, 0), (47, .bipush 10, 10), (49, .iload 6, 0), (51, .imul, 0), (52, .iload 4, 0), (54, .iadd, 0), (55, .bipush 10, 10), (57, .iload 7, 0), (59, .imul, 0), (60, .iload 5, 0), (62, .iadd, 0), (63, .invokestatic 24, 0), (66, .iload_n 0, 0), (67, .invokestatic 11, 0), (70, .ldc2_w 28, 0), (73, .lxor, 0), (74, .land, 0), (75, .lreturn, 0)])
theorem mM_X5_around_ok : m_okM mM_X5_around = true := by decide +kernel
def mM_X5_beside : mM := (yX5_beside, cX5_beside, 6, some .long, [], 5, [(0, .lload_n 0, 0), (1, .bipush 10, 10), (3, .lshl, 0), (4, .lload_n 0, 0), (5, .bipush 10, 10), (7, .lushr, 0), (8, .lor, 0), (9, .lstore_n 2, 0), (10, .lload_n 0, 0), (11, .ldc2_w 30, 0), (14, .land, 0), (15, .iconst 1, 1), (16, .lshl, 0), (17, .lload_n 0, 0), (18, .ldc2_w 32, 0), (21, .land, 0), (22, .iconst 1, 1), (23, .lushr, 0), (24, .lor, 0), (25, .lstore 4, 0), (27, .lload_n 2, 0), (28, .lload 4, 0), (30, .lor, 0), (31, .ldc2_w 34, 0), (34, .land, 0), (35, .lreturn, 0)])
theorem mM_X5_beside_ok : m_okM mM_X5_beside = true := by decide +kernel
def mM_X5_isJoined : mM := (yX5_isJoined, cX5_isJoined, 9, some .boolean, [], 5, [(0, .lload_n 0, 0), (1, .lload_n 0, 0), (2, .lneg, 0), (3, .land, 0), (4, .lstore_n 2, 0), (5, .lload_n 2, 0), (6, .lstore 4, 0), (8, .iconst 0, 0), (9, .istore 6, 0), (11, .iload 6, 0), (13, .bipush 60, 60), (15, .if_icmp .ge 36, 51), (18, .lload 4, 0), (20, .lload 4, 0), (22, .invokestatic 36, 0), (25, .lload_n 0, 0), (26, .land, 0), (27, .lor, 0), (28, .lstore 7, 0), (30, .lload 7, 0), (32, .lload 4, 0), (34, .lcmp, 0), (35, .ifCond .ne 6, 41), (38, .goto 13, 51), (41, .lload 7, 0), (43, .lstore 4, 0), (45, .iinc 6 1, 1), (48, .goto (-37), 11), (51, .lload 4, 0), (53, .lload_n 0, 0), (54, .lcmp, 0), (55, .ifCond .ne 7, 62), (58, .iconst 1, 1), (59, .goto 4, 63), (62, .iconst 0, 0), (63, .ireturn, 0)])
theorem mM_X5_isJoined_ok : m_okM mM_X5_isJoined = true := by decide +kernel
def mM_X5_stepsToAll : mM := (yX5_stepsToAll, cX5_stepsToAll, 8, some .int, [], 5, [(0, .iload_n 2, 0), (1, .invokestatic 11, 0), (4, .lstore 5, 0), (6, .iconst 0, 0), (7, .istore 7, 0), (9, .iload 7, 0), (11, .bipush 60, 60), (13, .if_icmp .ge 37, 50), (16, .lload_n 0, 0), (17, .lload 5, 0), (19, .ldc2_w 28, 0), (22, .lxor, 0), (23, .land, 0), (24, .lconst 0, 0), (25, .lcmp, 0), (26, .ifCond .ne 6, 32), (29, .iload 7, 0), (31, .ireturn, 0), (32, .lload 5, 0), (34, .lload 5, 0), (36, .invokestatic 36, 0), (39, .lload_n 3, 0), (40, .land, 0), (41, .lor, 0), (42, .lstore 5, 0), (44, .iinc 7 1, 1), (47, .goto (-38), 9), (50, .iconst (-1), 1), (51, .ireturn, 0)])
theorem mM_X5_stepsToAll_ok : m_okM mM_X5_stepsToAll = true := by decide +kernel
def mM_X6_init : mM := (yX6_init, cX6_init, 1, none, [], 6, [(0, .aload_n 0, 0), (1, .invokespecial 3, 0), (4, .aload_n 0, 0), (5, .sipush 400, 400), (8, .newarray .byte, 0), (10, .putfield 11, 0), (13, .aload_n 0, 0), (14, .iconst 0, 0), (15, .putfield 15, 0), (18, .return_, 0)])
theorem mM_X6_init_ok : m_okM mM_X6_init = true := by decide +kernel
def mM_X6_hasRoom : mM := (yX6_hasRoom, cX6_hasRoom, 1, some .boolean, [], 6, [(0, .aload_n 0, 0), (1, .getfield 15, 0), (4, .sipush 380, 380), (7, .if_icmp .gt 7, 14), (10, .iconst 1, 1), (11, .goto 4, 15), (14, .iconst 0, 0), (15, .ireturn, 0)])
theorem mM_X6_hasRoom_ok : m_okM mM_X6_hasRoom = true := by decide +kernel
def mM_X6_append : mM := (yX6_append, cX6_append, 3, none, [], 6, [(0, .bipush 24, 24), (2, .istore_n 2, 0), (3, .iload_n 2, 0), (4, .ifCond .lt 42, 46), (7, .aload_n 0, 0), (8, .getfield 15, 0), (11, .sipush 400, 400), (14, .if_icmp .ge 32, 46), (17, .aload_n 0, 0), (18, .getfield 11, 0), (21, .aload_n 0, 0), (22, .getfield 15, 0), (25, .iload_n 1, 0), (26, .iload_n 2, 0), (27, .ishr, 0), (28, .i2b, 0), (29, .bastore, 0), (30, .aload_n 0, 0), (31, .dup, 0), (32, .getfield 15, 0), (35, .iconst 1, 1), (36, .iadd, 0), (37, .putfield 15, 0), (40, .iinc 2 (-8), 8), (43, .goto (-40), 3), (46, .return_, 0)])
theorem mM_X6_append_ok : m_okM mM_X6_append = true := by decide +kernel
def mM_X6_at : mM := (yX6_at, cX6_at, 2, some .int, [], 6, [(0, .iload_n 1, 0), (1, .ifCond .lt 24, 25), (4, .iload_n 1, 0), (5, .aload_n 0, 0), (6, .getfield 15, 0), (9, .if_icmp .ge 16, 25), (12, .aload_n 0, 0), (13, .getfield 11, 0), (16, .iload_n 1, 0), (17, .baload, 0), (18, .sipush 255, 255), (21, .iand, 0), (22, .goto 4, 26), (25, .iconst (-1), 1), (26, .ireturn, 0)])
theorem mM_X6_at_ok : m_okM mM_X6_at = true := by decide +kernel
def mM_X7_init : mM := (yX7_init, cX7_init, 1, none, [], 7, [(0, .aload_n 0, 0), (1, .invokespecial 3, 0), (4, .aload_n 0, 0), (5, .iconst 5, 5), (6, .newarray .long, 0), (8, .putfield 9, 0), (11, .aload_n 0, 0), (12, .getfield 9, 0), (15, .iconst 0, 0), (16, .ldc2_w 17, 0), (19, .lastore, 0), (20, .return_, 0)])
theorem mM_X7_init_ok : m_okM mM_X7_init = true := by decide +kernel
def mM_X7_of : mM := (yX7_of, cX7_of, 2, some .long, [], 7, [(0, .aload_n 0, 0), (1, .getfield 9, 0), (4, .iload_n 1, 0), (5, .laload, 0), (6, .lreturn, 0)])
theorem mM_X7_of_ok : m_okM mM_X7_of = true := by decide +kernel
def mM_X7_useOf : mM := (yX7_useOf, cX7_useOf, 3, some .int, [], 7, [(0, .iconst 0, 0), (1, .istore_n 2, 0), (2, .iload_n 2, 0), (3, .iconst 5, 5), (4, .if_icmp .ge 24, 28), (7, .aload_n 0, 0), (8, .getfield 9, 0), (11, .iload_n 2, 0), (12, .laload, 0), (13, .iload_n 1, 0), (14, .invokestatic 19, 0), (17, .ifCond .eq 5, 22), (20, .iload_n 2, 0), (21, .ireturn, 0), (22, .iinc 2 1, 1), (25, .goto (-23), 2), (28, .iconst (-1), 1), (29, .ireturn, 0)])
theorem mM_X7_useOf_ok : m_okM mM_X7_useOf = true := by decide +kernel
def mM_X7_put : mM := (yX7_put, cX7_put, 5, some .int, [], 7, [(0, .lload_n 1, 0), (1, .aload_n 0, 0), (2, .getfield 9, 0), (5, .iload_n 3, 0), (6, .laload, 0), (7, .ldc2_w 23, 0), (10, .lxor, 0), (11, .land, 0), (12, .invokestatic 25, 0), (15, .istore 4, 0), (17, .aload_n 0, 0), (18, .lload_n 1, 0), (19, .invokevirtual 31, 0), (22, .aload_n 0, 0), (23, .getfield 9, 0), (26, .iload_n 3, 0), (27, .dup2, 0), (28, .laload, 0), (29, .lload_n 1, 0), (30, .lor, 0), (31, .lastore, 0), (32, .iload 4, 0), (34, .ireturn, 0)])
theorem mM_X7_put_ok : m_okM mM_X7_put = true := by decide +kernel
def mM_X7_lift : mM := (yX7_lift, cX7_lift, 4, none, [], 7, [(0, .iconst 0, 0), (1, .istore_n 3, 0), (2, .iload_n 3, 0), (3, .iconst 5, 5), (4, .if_icmp .ge 23, 27), (7, .aload_n 0, 0), (8, .getfield 9, 0), (11, .iload_n 3, 0), (12, .dup2, 0), (13, .laload, 0), (14, .lload_n 1, 0), (15, .ldc2_w 23, 0), (18, .lxor, 0), (19, .land, 0), (20, .lastore, 0), (21, .iinc 3 1, 1), (24, .goto (-22), 2), (27, .return_, 0)])
theorem mM_X7_lift_ok : m_okM mM_X7_lift = true := by decide +kernel
def mM_X7_become : mM := (yX7_become, cX7_become, 3, none, [], 7, [(0, .iconst 0, 0), (1, .istore_n 2, 0), (2, .iload_n 2, 0), (3, .iconst 5, 5), (4, .if_icmp .ge 21, 25), (7, .aload_n 0, 0), (8, .getfield 9, 0), (11, .iload_n 2, 0), (12, .aload_n 1, 0), (13, .getfield 9, 0), (16, .iload_n 2, 0), (17, .laload, 0), (18, .lastore, 0), (19, .iinc 2 1, 1), (22, .goto (-20), 2), (25, .return_, 0)])
theorem mM_X7_become_ok : m_okM mM_X7_become = true := by decide +kernel
def mM_X7_differencesFrom : mM := (yX7_differencesFrom, cX7_differencesFrom, 4, some .int, [], 7, [(0, .iconst 0, 0), (1, .istore_n 2, 0), (2, .iconst 0, 0), (3, .istore_n 3, 0), (4, .iload_n 3, 0), (5, .iconst 5, 5), (6, .if_icmp .ge 28, 34), (9, .iload_n 2, 0), (10, .aload_n 0, 0), (11, .getfield 9, 0), (14, .iload_n 3, 0), (15, .laload, 0), (16, .aload_n 1, 0), (17, .getfield 9, 0), (20, .iload_n 3, 0), (21, .laload, 0), (22, .land, 0), (23, .invokestatic 25, 0), (26, .iadd, 0), (27, .istore_n 2, 0), (28, .iinc 3 1, 1), (31, .goto (-27), 4), (34, .bipush 60, 60), (36, .iload_n 2, 0), (37, .isub, 0), (38, .ireturn, 0)])
theorem mM_X7_differencesFrom_ok : m_okM mM_X7_differencesFrom = true := by decide +kernel
def mM_X7_likeBeside : mM := (yX7_likeBeside, cX7_likeBeside, 6, some .int, [], 7, [(0, .iload_n 1, 0), (1, .invokestatic 35, 0), (4, .invokestatic 39, 0), (7, .lstore_n 2, 0), (8, .iconst 0, 0), (9, .istore 4, 0), (11, .iconst 0, 0), (12, .istore 5, 0), (14, .iload 5, 0), (16, .iconst 5, 5), (17, .if_icmp .ge 40, 57), (20, .aload_n 0, 0), (21, .getfield 9, 0), (24, .iload 5, 0), (26, .laload, 0), (27, .iload_n 1, 0), (28, .invokestatic 19, 0), (31, .ifCond .eq 20, 51), (34, .iload 4, 0), (36, .lload_n 2, 0), (37, .aload_n 0, 0), (38, .getfield 9, 0), (41, .iload 5, 0), (43, .laload, 0), (44, .land, 0), (45, .invokestatic 25, 0), (48, .iadd, 0), (49, .istore 4, 0), (51, .iinc 5 1, 1), (54, .goto (-40), 14), (57, .iload 4, 0), (59, .ireturn, 0)])
theorem mM_X7_likeBeside_ok : m_okM mM_X7_likeBeside = true := by decide +kernel
def mM_X8_init : mM := (yX8_init, cX8_init, 2, none, [], 8, [(0, .aload_n 0, 0), (1, .invokespecial 3, 0), (4, .aload_n 0, 0), (5, .new 9, 0), (8, .dup, 0), (9, .invokespecial 11, 0), (12, .putfield 12, 0), (15, .aload_n 0, 0), (16, .new 16, 0), (19, .dup, 0), (20, .aload_n 0, 0), (21, .getfield 12, 0), (24, .invokespecial 18, 0), (27, .putfield 21, 0), (30, .aload_n 0, 0), (31, .new 25, 0), (34, .dup, 0), (35, .invokespecial 27, 0), (38, .putfield 28, 0), (41, .aload_n 0, 0), (42, .new 32, 0), (45, .dup, 0), (46, .invokespecial 34, 0), (49, .putfield 35, 0), (52, .aload_n 0, 0), (53, .bipush 6, 6), (55, .anewarray 32, 0), (58, .putfield 39, 0), (61, .iconst 0, 0), (62, .istore_n 1, 0), (63, .iload_n 1, 0), (64, .bipush 6, 6), (66, .if_icmp .ge 22, 88), (69, .aload_n 0, 0), (70, .getfield 39, 0), (73, .iload_n 1, 0), (74, .new 32, 0), (77, .dup, 0), (78, .invokespecial 34, 0), (81, .aastore, 0), (82, .iinc 1 1, 1), (85, .goto (-22), 63), (88, .aload_n 0, 0), (89, .new 43, 0), (92, .dup, 0), (93, .invokespecial 45, 0), (96, .putfield 46, 0), (99, .aload_n 0, 0), (100, .new 43, 0), (103, .dup, 0), (104, .invokespecial 45, 0), (107, .putfield 50, 0), (110, .aload_n 0, 0), (111, .new 53, 0), (114, .dup, 0), (115, .aload_n 0, 0), (116, .getfield 28, 0), (119, .aload_n 0, 0), (120, .getfield 46, 0), (123, .invokespecial 55, 0), (126, .putfield 58, 0), (129, .aload_n 0, 0), (130, .lconst 0, 0), (131, .putfield 62, 0), (134, .aload_n 0, 0), (135, .iconst 0, 0), (136, .putfield 66, 0), (139, .aload_n 0, 0), (140, .iconst 0, 0), (141, .putfield 70, 0), (144, .aload_n 0, 0), (145, .iconst 0, 0), (146, .putfield 73, 0), (149, .aload_n 0, 0), (150, .iconst (-1), 1), (151, .putfield 76, 0), (154, .aload_n 0, 0), (155, .iconst 0, 0), (156, .putfield 79, 0), (159, .return_, 0)])
theorem mM_X8_init_ok : m_okM mM_X8_init = true := by decide +kernel
def mM_X8_feed : mM := (yX8_feed, cX8_feed, 6, some .int, [], 8, [(0, .aload_n 0, 0), (1, .getfield 12, 0), (4, .invokevirtual 83, 0), (7, .ifCond .ne 5, 12), (10, .iconst (-1), 1), (11, .ireturn, 0), (12, .aload_n 0, 0), (13, .getfield 12, 0), (16, .iload_n 1, 0), (17, .invokevirtual 87, 0), (20, .aload_n 0, 0), (21, .getfield 12, 0), (24, .iload_n 2, 0), (25, .invokevirtual 87, 0), (28, .aload_n 0, 0), (29, .getfield 12, 0), (32, .iload_n 3, 0), (33, .invokevirtual 87, 0), (36, .aload_n 0, 0), (37, .getfield 12, 0), (40, .iload 4, 0), (42, .invokevirtual 87, 0), (45, .aload_n 0, 0), (46, .getfield 12, 0), (49, .iload 5, 0), (51, .invokevirtual 87, 0), (54, .aload_n 0, 0), (55, .getfield 12, 0), (58, .getfield 91, 0), (61, .ireturn, 0)])
theorem mM_X8_feed_ok : m_okM mM_X8_feed = true := by decide +kernel
def mM_X8_end : mM := (yX8_end, cX8_end, 2, some .boolean, [], 8, [(0, .iload_n 1, 0), (1, .ifCond .lt 14, 15), (4, .iload_n 1, 0), (5, .aload_n 0, 0), (6, .getfield 12, 0), (9, .getfield 91, 0), (12, .if_icmp .le 5, 17), (15, .iconst 0, 0), (16, .ireturn, 0), (17, .aload_n 0, 0), (18, .getfield 12, 0), (21, .iload_n 1, 0), (22, .putfield 91, 0), (25, .iconst 1, 1), (26, .ireturn, 0)])
theorem mM_X8_end_ok : m_okM mM_X8_end = true := by decide +kernel
def mM_X8_use : mM := (yX8_use, cX8_use, 4, some .int, [], 8, [(0, .iload_n 1, 0), (1, .invokestatic 94, 0), (4, .iload_n 2, 0), (5, .invokestatic 94, 0), (8, .iload_n 3, 0), (9, .ifCond .lt 8, 17), (12, .iload_n 3, 0), (13, .iconst 5, 5), (14, .if_icmp .lt 13, 27), (17, .new 97, 0), (20, .dup, 0), (21, .ldc 99, 0), (23, .invokespecial 101, 0), (26, .athrow, 0), (27, .aload_n 0, 0), (28, .iconst 0, 0), (29, .putfield 79, 0), (32, .aload_n 0, 0), (33, .getfield 28, 0), (36, .getfield 104, 0), (39, .iload_n 1, 0), (40, .iload_n 2, 0), (41, .invokestatic 107, 0), (44, .iload_n 3, 0), (45, .invokevirtual 113, 0), (48, .ireturn, 0)])
theorem mM_X8_use_ok : m_okM mM_X8_use = true := by decide +kernel
def mM_X8_soil : mM := (yX8_soil, cX8_soil, 4, none, [], 8, [(0, .iload_n 1, 0), (1, .invokestatic 94, 0), (4, .iload_n 2, 0), (5, .invokestatic 94, 0), (8, .iload_n 3, 0), (9, .ifCond .lt 9, 18), (12, .iload_n 3, 0), (13, .bipush 9, 9), (15, .if_icmp .le 13, 28), (18, .new 97, 0), (21, .dup, 0), (22, .ldc 117, 0), (24, .invokespecial 101, 0), (27, .athrow, 0), (28, .aload_n 0, 0), (29, .iconst 0, 0), (30, .putfield 79, 0), (33, .aload_n 0, 0), (34, .getfield 28, 0), (37, .iload_n 1, 0), (38, .iload_n 2, 0), (39, .invokestatic 107, 0), (42, .iload_n 3, 0), (43, .invokevirtual 119, 0), (46, .return_, 0)])
theorem mM_X8_soil_ok : m_okM mM_X8_soil = true := by decide +kernel
def mM_X8_free : mM := (yX8_free, cX8_free, 3, some .boolean, [], 8, [(0, .iload_n 1, 0), (1, .invokestatic 94, 0), (4, .aload_n 0, 0), (5, .getfield 62, 0), (8, .iload_n 1, 0), (9, .invokestatic 123, 0), (12, .iload_n 2, 0), (13, .if_icmp .ne 5, 18), (16, .iconst 0, 0), (17, .ireturn, 0), (18, .iload_n 2, 0), (19, .ifCond .eq 16, 35), (22, .aload_n 0, 0), (23, .getfield 62, 0), (26, .invokestatic 127, 0), (29, .iconst 5, 5), (30, .if_icmp .lt 5, 35), (33, .iconst 0, 0), (34, .ireturn, 0), (35, .aload_n 0, 0), (36, .iconst 0, 0), (37, .putfield 79, 0), (40, .aload_n 0, 0), (41, .dup, 0), (42, .getfield 62, 0), (45, .iload_n 1, 0), (46, .invokestatic 133, 0), (49, .lxor, 0), (50, .putfield 62, 0), (53, .iconst 1, 1), (54, .ireturn, 0)])
theorem mM_X8_free_ok : m_okM mM_X8_free = true := by decide +kernel
def mM_X8_gate : mM := (yX8_gate, cX8_gate, 2, none, [], 8, [(0, .iload_n 1, 0), (1, .invokestatic 94, 0), (4, .aload_n 0, 0), (5, .iload_n 1, 0), (6, .putfield 66, 0), (9, .return_, 0)])
theorem mM_X8_gate_ok : m_okM mM_X8_gate = true := by decide +kernel
def mM_X8_book : mM := (yX8_book, cX8_book, 2, some .int, [], 8, [(0, .aload_n 0, 0), (1, .aload_n 0, 0), (2, .getfield 21, 0), (5, .aload_n 0, 0), (6, .getfield 50, 0), (9, .invokevirtual 137, 0), (12, .putfield 76, 0), (15, .aload_n 0, 0), (16, .getfield 12, 0), (19, .iconst 0, 0), (20, .putfield 91, 0), (23, .aload_n 0, 0), (24, .getfield 76, 0), (27, .iconst (-1), 1), (28, .if_icmp .eq 13, 41), (31, .new 97, 0), (34, .dup, 0), (35, .ldc 141, 0), (37, .invokespecial 101, 0), (40, .athrow, 0), (41, .aload_n 0, 0), (42, .getfield 46, 0), (45, .astore_n 1, 0), (46, .aload_n 0, 0), (47, .aload_n 0, 0), (48, .getfield 50, 0), (51, .putfield 46, 0), (54, .aload_n 0, 0), (55, .aload_n 1, 0), (56, .putfield 50, 0), (59, .aload_n 0, 0), (60, .iconst 0, 0), (61, .putfield 79, 0), (64, .aload_n 0, 0), (65, .getfield 46, 0), (68, .getfield 143, 0), (71, .ireturn, 0)])
theorem mM_X8_book_ok : m_okM mM_X8_book = true := by decide +kernel
def mM_X8_fault : mM := (yX8_fault, cX8_fault, 1, some .int, [], 8, [(0, .aload_n 0, 0), (1, .getfield 76, 0), (4, .ireturn, 0)])
theorem mM_X8_fault_ok : m_okM mM_X8_fault = true := by decide +kernel
def mM_X8_worth : mM := (yX8_worth, cX8_worth, 1, some .int, [], 8, [(0, .aload_n 0, 0), (1, .getfield 46, 0), (4, .aload_n 0, 0), (5, .getfield 28, 0), (8, .invokevirtual 146, 0), (11, .ireturn, 0)])
theorem mM_X8_worth_ok : m_okM mM_X8_worth = true := by decide +kernel
def mM_X8_adds : mM := (yX8_adds, cX8_adds, 2, some .int, [], 8, [(0, .aload_n 0, 0), (1, .iload_n 1, 0), (2, .invokevirtual 150, 0), (5, .aload_n 0, 0), (6, .getfield 46, 0), (9, .getfield 153, 0), (12, .iload_n 1, 0), (13, .aaload, 0), (14, .aload_n 0, 0), (15, .getfield 28, 0), (18, .invokevirtual 157, 0), (21, .ireturn, 0)])
theorem mM_X8_adds_ok : m_okM mM_X8_adds = true := by decide +kernel
def mM_X8_broken : mM := (yX8_broken, cX8_broken, 1, some .int, [], 8, [(0, .aload_n 0, 0), (1, .getfield 46, 0), (4, .aload_n 0, 0), (5, .getfield 28, 0), (8, .invokevirtual 160, 0), (11, .ireturn, 0)])
theorem mM_X8_broken_ok : m_okM mM_X8_broken = true := by decide +kernel
def mM_X8_years : mM := (yX8_years, cX8_years, 3, some .int, [], 8, [(0, .iload_n 1, 0), (1, .ifCond .lt 9, 10), (4, .iload_n 1, 0), (5, .bipush 20, 20), (7, .if_icmp .le 13, 20), (10, .new 97, 0), (13, .dup, 0), (14, .ldc 163, 0), (16, .invokespecial 101, 0), (19, .athrow, 0), (20, .aload_n 0, 0), (21, .iconst 0, 0), (22, .putfield 79, 0), (25, .iconst 0, 0), (26, .istore_n 2, 0), (27, .iload_n 2, 0), (28, .iload_n 1, 0), (29, .if_icmp .ge 58, 87), (32, .aload_n 0, 0), (33, .getfield 73, 0), (36, .sipush 1000, 1000), (39, .if_icmp .ge 48, 87), (42, .aload_n 0, 0), (43, .getfield 46, 0), (46, .aload_n 0, 0), (47, .getfield 35, 0), (50, .aload_n 0, 0), (51, .getfield 28, 0), (54, .invokevirtual 165, 0), (57, .aload_n 0, 0), (58, .getfield 28, 0), (61, .getfield 104, 0), (64, .aload_n 0, 0), (65, .getfield 35, 0), (68, .invokevirtual 169, 0), (71, .aload_n 0, 0), (72, .dup, 0), (73, .getfield 73, 0), (76, .iconst 1, 1), (77, .iadd, 0), (78, .putfield 73, 0), (81, .iinc 2 1, 1), (84, .goto (-57), 27), (87, .aload_n 0, 0), (88, .getfield 73, 0), (91, .ireturn, 0)])
theorem mM_X8_years_ok : m_okM mM_X8_years = true := by decide +kernel
def mM_X8_can : mM := (yX8_can, cX8_can, 1, some .boolean, [], 8, [(0, .aload_n 0, 0), (1, .invokevirtual 173, 0), (4, .getfield 177, 0), (7, .ireturn, 0)])
theorem mM_X8_can_ok : m_okM mM_X8_can = true := by decide +kernel
def mM_X8_best : mM := (yX8_best, cX8_best, 2, some .int, [], 8, [(0, .aload_n 0, 0), (1, .invokevirtual 173, 0), (4, .astore_n 1, 0), (5, .aload_n 1, 0), (6, .getfield 177, 0), (9, .ifCond .ne 13, 22), (12, .new 180, 0), (15, .dup, 0), (16, .ldc 182, 0), (18, .invokespecial 184, 0), (21, .athrow, 0), (22, .aload_n 1, 0), (23, .getfield 185, 0), (26, .ireturn, 0)])
theorem mM_X8_best_ok : m_okM mM_X8_best = true := by decide +kernel
def mM_X8_given : mM := (yX8_given, cX8_given, 3, some .int, [], 8, [(0, .iload_n 1, 0), (1, .invokestatic 94, 0), (4, .aload_n 0, 0), (5, .invokevirtual 173, 0), (8, .astore_n 2, 0), (9, .aload_n 2, 0), (10, .getfield 177, 0), (13, .ifCond .eq 14, 27), (16, .aload_n 2, 0), (17, .getfield 188, 0), (20, .iload_n 1, 0), (21, .invokevirtual 191, 0), (24, .goto 4, 28), (27, .iconst (-1), 1), (28, .ireturn, 0)])
theorem mM_X8_given_ok : m_okM mM_X8_given = true := by decide +kernel
def mM_X8_take : mM := (yX8_take, cX8_take, 2, some .boolean, [], 8, [(0, .aload_n 0, 0), (1, .invokevirtual 173, 0), (4, .astore_n 1, 0), (5, .aload_n 1, 0), (6, .getfield 177, 0), (9, .ifCond .ne 5, 14), (12, .iconst 0, 0), (13, .ireturn, 0), (14, .aload_n 0, 0), (15, .getfield 28, 0), (18, .getfield 104, 0), (21, .aload_n 1, 0), (22, .getfield 188, 0), (25, .invokevirtual 169, 0), (28, .aload_n 0, 0), (29, .iconst 0, 0), (30, .putfield 79, 0), (33, .iconst 1, 1), (34, .ireturn, 0)])
theorem mM_X8_take_ok : m_okM mM_X8_take = true := by decide +kernel
def mM_X8_cost : mM := (yX8_cost, cX8_cost, 3, some .int, [], 8, [(0, .aload_n 0, 0), (1, .iload_n 1, 0), (2, .invokevirtual 150, 0), (5, .aload_n 0, 0), (6, .getfield 46, 0), (9, .getfield 153, 0), (12, .iload_n 1, 0), (13, .aaload, 0), (14, .invokevirtual 195, 0), (17, .ifCond .ne 13, 30), (20, .new 180, 0), (23, .dup, 0), (24, .ldc 198, 0), (26, .invokespecial 184, 0), (29, .athrow, 0), (30, .aload_n 0, 0), (31, .invokevirtual 173, 0), (34, .astore_n 2, 0), (35, .aload_n 2, 0), (36, .getfield 177, 0), (39, .ifCond .ne 13, 52), (42, .new 180, 0), (45, .dup, 0), (46, .ldc 182, 0), (48, .invokespecial 184, 0), (51, .athrow, 0), (52, .aload_n 2, 0), (53, .getfield 185, 0), (56, .aload_n 2, 0), (57, .getfield 200, 0), (60, .iload_n 1, 0), (61, .iaload, 0), (62, .invokestatic 204, 0), (65, .aload_n 2, 0), (66, .getfield 185, 0), (69, .isub, 0), (70, .ireturn, 0)])
theorem mM_X8_cost_ok : m_okM mM_X8_cost = true := by decide +kernel
def mM_X8_look : mM := (yX8_look, cX8_look, 3, some .int, [], 8, [(0, .iload_n 1, 0), (1, .invokestatic 94, 0), (4, .iload_n 2, 0), (5, .tableswitch 82 0 3 #[31, 43, 53, 70], 0), (36, .aload_n 0, 0), (37, .getfield 28, 0), (40, .getfield 104, 0), (43, .iload_n 1, 0), (44, .invokevirtual 191, 0), (47, .ireturn, 0), (48, .aload_n 0, 0), (49, .getfield 28, 0), (52, .getfield 210, 0), (55, .iload_n 1, 0), (56, .iaload, 0), (57, .ireturn, 0), (58, .aload_n 0, 0), (59, .getfield 62, 0), (62, .iload_n 1, 0), (63, .invokestatic 123, 0), (66, .ifCond .eq 7, 73), (69, .iconst 1, 1), (70, .goto 4, 74), (73, .iconst 0, 0), (74, .ireturn, 0), (75, .aload_n 0, 0), (76, .getfield 28, 0), (79, .getfield 104, 0), (82, .iload_n 1, 0), (83, .invokevirtual 213, 0), (86, .ireturn, 0), (87, .new 180, 0), (90, .dup, 0), (91, .ldc 216, 0), (93, .invokespecial 184, 0), (96, .athrow, 0)])
theorem mM_X8_look_ok : m_okM mM_X8_look = true := by decide +kernel
def mM_X8_keep : mM := (yX8_keep, cX8_keep, 1, some .int, [], 8, [(0, .aload_n 0, 0), (1, .getfield 70, 0), (4, .bipush 6, 6), (6, .if_icmp .lt 5, 11), (9, .iconst (-1), 1), (10, .ireturn, 0), (11, .aload_n 0, 0), (12, .getfield 39, 0), (15, .aload_n 0, 0), (16, .getfield 70, 0), (19, .aaload, 0), (20, .aload_n 0, 0), (21, .getfield 28, 0), (24, .getfield 104, 0), (27, .invokevirtual 169, 0), (30, .aload_n 0, 0), (31, .dup, 0), (32, .getfield 70, 0), (35, .iconst 1, 1), (36, .iadd, 0), (37, .putfield 70, 0), (40, .aload_n 0, 0), (41, .getfield 70, 0), (44, .iconst 1, 1), (45, .isub, 0), (46, .ireturn, 0)])
theorem mM_X8_keep_ok : m_okM mM_X8_keep = true := by decide +kernel
def mM_X8_unlike : mM := (yX8_unlike, cX8_unlike, 3, some .int, [], 8, [(0, .aload_n 0, 0), (1, .iload_n 1, 0), (2, .invokevirtual 218, 0), (5, .aload_n 0, 0), (6, .iload_n 2, 0), (7, .invokevirtual 218, 0), (10, .invokevirtual 222, 0), (13, .ireturn, 0)])
theorem mM_X8_unlike_ok : m_okM mM_X8_unlike = true := by decide +kernel
def mM_X8_back : mM := (yX8_back, cX8_back, 3, some .int, [], 8, [(0, .aload_n 0, 0), (1, .iload_n 1, 0), (2, .invokevirtual 226, 0), (5, .aload_n 0, 0), (6, .getfield 28, 0), (9, .getfield 104, 0), (12, .aload_n 0, 0), (13, .getfield 39, 0), (16, .iload_n 1, 0), (17, .aaload, 0), (18, .invokevirtual 222, 0), (21, .istore_n 2, 0), (22, .aload_n 0, 0), (23, .getfield 28, 0), (26, .getfield 104, 0), (29, .aload_n 0, 0), (30, .getfield 39, 0), (33, .iload_n 1, 0), (34, .aaload, 0), (35, .invokevirtual 169, 0), (38, .aload_n 0, 0), (39, .iconst 0, 0), (40, .putfield 79, 0), (43, .iload_n 2, 0), (44, .ireturn, 0)])
theorem mM_X8_back_ok : m_okM mM_X8_back = true := by decide +kernel
def mM_X8_far : mM := (yX8_far, cX8_far, 5, some .int, [], 8, [(0, .aload_n 0, 0), (1, .getfield 28, 0), (4, .getfield 104, 0), (7, .iconst 1, 1), (8, .invokevirtual 229, 0), (11, .lstore_n 1, 0), (12, .ldc2_w 232, 0), (15, .aload_n 0, 0), (16, .getfield 28, 0), (19, .getfield 104, 0), (22, .iconst 4, 4), (23, .invokevirtual 229, 0), (26, .ldc2_w 234, 0), (29, .lxor, 0), (30, .land, 0), (31, .lstore_n 3, 0), (32, .lload_n 1, 0), (33, .aload_n 0, 0), (34, .getfield 66, 0), (37, .lload_n 3, 0), (38, .invokestatic 236, 0), (41, .ireturn, 0)])
theorem mM_X8_far_ok : m_okM mM_X8_far = true := by decide +kernel
def mM_X8_count : mM := (yX8_count, cX8_count, 2, some .int, [], 8, [(0, .iload_n 1, 0), (1, .ifCond .lt 23, 24), (4, .iload_n 1, 0), (5, .iconst 5, 5), (6, .if_icmp .ge 18, 24), (9, .aload_n 0, 0), (10, .getfield 28, 0), (13, .getfield 104, 0), (16, .iload_n 1, 0), (17, .invokevirtual 229, 0), (20, .invokestatic 127, 0), (23, .ireturn, 0), (24, .iload_n 1, 0), (25, .tableswitch 69 5 9 #[35, 43, 51, 59, 64], 0), (60, .aload_n 0, 0), (61, .getfield 62, 0), (64, .invokestatic 127, 0), (67, .ireturn, 0), (68, .aload_n 0, 0), (69, .getfield 46, 0), (72, .getfield 143, 0), (75, .ireturn, 0), (76, .aload_n 0, 0), (77, .getfield 46, 0), (80, .invokevirtual 240, 0), (83, .ireturn, 0), (84, .aload_n 0, 0), (85, .getfield 70, 0), (88, .ireturn, 0), (89, .aload_n 0, 0), (90, .getfield 73, 0), (93, .ireturn, 0), (94, .iconst (-1), 1), (95, .ireturn, 0)])
theorem mM_X8_count_ok : m_okM mM_X8_count = true := by decide +kernel
def mM_X8_bestSearch : mM := (yX8_bestSearch, cX8_bestSearch, 1, some (.object "LandUses$Search"), [], 8, [(0, .aload_n 0, 0), (1, .getfield 79, 0), (4, .ifCond .ne 27, 31), (7, .aload_n 0, 0), (8, .getfield 58, 0), (11, .aload_n 0, 0), (12, .getfield 28, 0), (15, .aload_n 0, 0), (16, .getfield 46, 0), (19, .aload_n 0, 0), (20, .getfield 62, 0), (23, .invokevirtual 244, 0), (26, .aload_n 0, 0), (27, .iconst 1, 1), (28, .putfield 79, 0), (31, .aload_n 0, 0), (32, .getfield 58, 0), (35, .areturn, 0)])
theorem mM_X8_bestSearch_ok : m_okM mM_X8_bestSearch = true := by decide +kernel
def mM_X8_planOrLand : mM := (yX8_planOrLand, cX8_planOrLand, 2, some (.object "LandUses$Uses"), [], 8, [(0, .iload_n 1, 0), (1, .iconst (-1), 1), (2, .if_icmp .ne 11, 13), (5, .aload_n 0, 0), (6, .getfield 28, 0), (9, .getfield 104, 0), (12, .areturn, 0), (13, .aload_n 0, 0), (14, .iload_n 1, 0), (15, .invokevirtual 226, 0), (18, .aload_n 0, 0), (19, .getfield 39, 0), (22, .iload_n 1, 0), (23, .aaload, 0), (24, .areturn, 0)])
theorem mM_X8_planOrLand_ok : m_okM mM_X8_planOrLand = true := by decide +kernel
def mM_X8_checkPlan : mM := (yX8_checkPlan, cX8_checkPlan, 2, none, [], 8, [(0, .iload_n 1, 0), (1, .ifCond .lt 11, 12), (4, .iload_n 1, 0), (5, .aload_n 0, 0), (6, .getfield 70, 0), (9, .if_icmp .lt 13, 22), (12, .new 248, 0), (15, .dup, 0), (16, .ldc 250, 0), (18, .invokespecial 252, 0), (21, .athrow, 0), (22, .return_, 0)])
theorem mM_X8_checkPlan_ok : m_okM mM_X8_checkPlan = true := by decide +kernel
def mM_X8_checkLine : mM := (yX8_checkLine, cX8_checkLine, 2, none, [], 8, [(0, .iload_n 1, 0), (1, .ifCond .lt 14, 15), (4, .iload_n 1, 0), (5, .aload_n 0, 0), (6, .getfield 46, 0), (9, .getfield 143, 0), (12, .if_icmp .lt 13, 25), (15, .new 248, 0), (18, .dup, 0), (19, .ldc 253, 0), (21, .invokespecial 252, 0), (24, .athrow, 0), (25, .return_, 0)])
theorem mM_X8_checkLine_ok : m_okM mM_X8_checkLine = true := by decide +kernel
def mM_X8_checkSquare : mM := (yX8_checkSquare, cX8_checkSquare, 1, none, [], 8, [(0, .iload_n 0, 0), (1, .ifCond .lt 9, 10), (4, .iload_n 0, 0), (5, .bipush 60, 60), (7, .if_icmp .lt 13, 20), (10, .new 248, 0), (13, .dup, 0), (14, .ldc 255, 0), (16, .invokespecial 252, 0), (19, .athrow, 0), (20, .return_, 0)])
theorem mM_X8_checkSquare_ok : m_okM mM_X8_checkSquare = true := by decide +kernel
def mM_X9_init : mM := (yX9_init, cX9_init, 1, none, [], 9, [(0, .aload_n 0, 0), (1, .invokespecial 1, 0), (4, .aload_n 0, 0), (5, .bipush 60, 60), (7, .newarray .int, 0), (9, .putfield 9, 0), (12, .aload_n 0, 0), (13, .bipush 60, 60), (15, .newarray .int, 0), (17, .putfield 13, 0), (20, .aload_n 0, 0), (21, .bipush 60, 60), (23, .newarray .boolean, 0), (25, .putfield 16, 0), (28, .aload_n 0, 0), (29, .bipush 28, 28), (31, .newarray .int, 0), (33, .putfield 20, 0), (36, .aload_n 0, 0), (37, .bipush 28, 28), (39, .newarray .int, 0), (41, .putfield 23, 0), (44, .aload_n 0, 0), (45, .bipush 28, 28), (47, .newarray .int, 0), (49, .putfield 26, 0), (52, .aload_n 0, 0), (53, .bipush 28, 28), (55, .newarray .int, 0), (57, .putfield 29, 0), (60, .aload_n 0, 0), (61, .bipush 28, 28), (63, .newarray .int, 0), (65, .putfield 32, 0), (68, .aload_n 0, 0), (69, .bipush 28, 28), (71, .newarray .int, 0), (73, .putfield 35, 0), (76, .aload_n 0, 0), (77, .bipush 28, 28), (79, .newarray .int, 0), (81, .putfield 38, 0), (84, .aload_n 0, 0), (85, .sipush 360, 360), (88, .newarray .int, 0), (90, .putfield 41, 0), (93, .aload_n 0, 0), (94, .sipush 400, 400), (97, .newarray .byte, 0), (99, .putfield 44, 0), (102, .aload_n 0, 0), (103, .iconst (-1), 1), (104, .putfield 48, 0), (107, .aload_n 0, 0), (108, .iconst 5, 5), (109, .newarray .int, 0), (111, .putfield 52, 0), (114, .aload_n 0, 0), (115, .bipush 60, 60), (117, .newarray .boolean, 0), (119, .putfield 55, 0), (122, .aload_n 0, 0), (123, .bipush 60, 60), (125, .newarray .int, 0), (127, .putfield 58, 0), (130, .aload_n 0, 0), (131, .iconst 5, 5), (132, .newarray .int, 0), (134, .putfield 61, 0), (137, .aload_n 0, 0), (138, .bipush 25, 25), (140, .newarray .int, 0), (142, .putfield 64, 0), (145, .aload_n 0, 0), (146, .sipush 625, 625), (149, .newarray .int, 0), (151, .putfield 67, 0), (154, .aload_n 0, 0), (155, .iconst 5, 5), (156, .newarray .int, 0), (158, .putfield 70, 0), (161, .aload_n 0, 0), (162, .iconst 5, 5), (163, .newarray .int, 0), (165, .putfield 73, 0), (168, .aload_n 0, 0), (169, .bipush 60, 60), (171, .newarray .int, 0), (173, .putfield 76, 0), (176, .return_, 0)])
theorem mM_X9_init_ok : m_okM mM_X9_init = true := by decide +kernel
def mM_X9_thrown : mM := (yX9_thrown, cX9_thrown, 1, some .int, [], 9, [(0, .aload_n 0, 0), (1, .getfield 79, 0), (4, .ireturn, 0)])
theorem mM_X9_thrown_ok : m_okM mM_X9_thrown = true := by decide +kernel
def mM_X9_throwsIf : mM := (yX9_throwsIf, cX9_throwsIf, 3, some .boolean, [], 9, [(0, .iload_n 1, 0), (1, .ifCond .eq 8, 9), (4, .aload_n 0, 0), (5, .iload_n 2, 0), (6, .putfield 79, 0), (9, .iload_n 1, 0), (10, .ireturn, 0)])
theorem mM_X9_throwsIf_ok : m_okM mM_X9_throwsIf = true := by decide +kernel
def mM_X9_in : mM := (yX9_in, cX9_in, 3, some .boolean, [], 9, [(0, .iload_n 0, 0), (1, .iload_n 1, 0), (2, .if_icmp .lt 12, 14), (5, .iload_n 0, 0), (6, .iload_n 2, 0), (7, .if_icmp .gt 7, 14), (10, .iconst 1, 1), (11, .goto 4, 15), (14, .iconst 0, 0), (15, .ireturn, 0)])
theorem mM_X9_in_ok : m_okM mM_X9_in = true := by decide +kernel
def mM_X9_noSquare : mM := (yX9_noSquare, cX9_noSquare, 1, some .boolean, [], 9, [(0, .iload_n 0, 0), (1, .iconst 0, 0), (2, .bipush 59, 59), (4, .invokestatic 82, 0), (7, .ifCond .ne 7, 14), (10, .iconst 1, 1), (11, .goto 4, 15), (14, .iconst 0, 0), (15, .ireturn, 0)])
theorem mM_X9_noSquare_ok : m_okM mM_X9_noSquare = true := by decide +kernel
def mM_X9_isIn : mM := (yX9_isIn, cX9_isIn, 5, some .boolean, [], 9, [(0, .iload_n 0, 0), (1, .bipush 10, 10), (3, .irem, 0), (4, .istore_n 3, 0), (5, .iload_n 0, 0), (6, .bipush 10, 10), (8, .idiv, 0), (9, .istore 4, 0), (11, .iload_n 3, 0), (12, .iload_n 1, 0), (13, .bipush 10, 10), (15, .irem, 0), (16, .iload_n 2, 0), (17, .bipush 10, 10), (19, .irem, 0), (20, .invokestatic 86, 0), (23, .iload_n 1, 0), (24, .bipush 10, 10), (26, .irem, 0), (27, .iload_n 2, 0), (28, .bipush 10, 10), (30, .irem, 0), (31, .invokestatic 92, 0), (34, .invokestatic 82, 0), (37, .ifCond .eq 37, 74), (40, .iload 4, 0), (42, .iload_n 1, 0), (43, .bipush 10, 10), (45, .idiv, 0), (46, .iload_n 2, 0), (47, .bipush 10, 10), (49, .idiv, 0), (50, .invokestatic 86, 0), (53, .iload_n 1, 0), (54, .bipush 10, 10), (56, .idiv, 0), (57, .iload_n 2, 0), (58, .bipush 10, 10), (60, .idiv, 0), (61, .invokestatic 92, 0), (64, .invokestatic 82, 0), (67, .ifCond .eq 7, 74), (70, .iconst 1, 1), (71, .goto 4, 75), (74, .iconst 0, 0), (75, .ireturn, 0)])
theorem mM_X9_isIn_ok : m_okM mM_X9_isIn = true := by decide +kernel
def mM_X9_use : mM := (yX9_use, cX9_use, 6, some .int, [], 9, [(0, .aload_n 0, 0), (1, .iconst 0, 0), (2, .putfield 79, 0), (5, .aload_n 0, 0), (6, .iload_n 1, 0), (7, .invokestatic 95, 0), (10, .ifCond .ne 10, 20), (13, .iload_n 2, 0), (14, .invokestatic 95, 0), (17, .ifCond .eq 7, 24), (20, .iconst 1, 1), (21, .goto 4, 25), (24, .iconst 0, 0), (25, .iconst 1, 1), (26, .invokevirtual 99, 0), (29, .ifCond .ne 25, 54), (32, .aload_n 0, 0), (33, .iload_n 3, 0), (34, .iconst 0, 0), (35, .iconst 4, 4), (36, .invokestatic 82, 0), (39, .ifCond .ne 7, 46), (42, .iconst 1, 1), (43, .goto 4, 47), (46, .iconst 0, 0), (47, .iconst 2, 2), (48, .invokevirtual 99, 0), (51, .ifCond .eq 5, 56), (54, .iconst 0, 0), (55, .ireturn, 0), (56, .iconst 0, 0), (57, .istore 4, 0), (59, .iconst 0, 0), (60, .istore 5, 0), (62, .iload 5, 0), (64, .bipush 60, 60), (66, .if_icmp .ge 51, 117), (69, .iload 5, 0), (71, .iload_n 1, 0), (72, .iload_n 2, 0), (73, .invokestatic 103, 0), (76, .ifCond .ne 6, 82), (79, .goto 32, 111), (82, .iload 4, 0), (84, .aload_n 0, 0), (85, .getfield 9, 0), (88, .iload 5, 0), (90, .iaload, 0), (91, .iload_n 3, 0), (92, .if_icmp .eq 7, 99), (95, .iconst 1, 1), (96, .goto 4, 100), (99, .iconst 0, 0), (100, .iadd, 0), (101, .istore 4, 0), (103, .aload_n 0, 0), (104, .getfield 9, 0), (107, .iload 5, 0), (109, .iload_n 3, 0), (110, .iastore, 0), (111, .iinc 5 1, 1), (114, .goto (-52), 62), (117, .iload 4, 0), (119, .ireturn, 0)])
theorem mM_X9_use_ok : m_okM mM_X9_use = true := by decide +kernel
def mM_X9_soil : mM := (yX9_soil, cX9_soil, 5, none, [], 9, [(0, .aload_n 0, 0), (1, .iconst 0, 0), (2, .putfield 79, 0), (5, .aload_n 0, 0), (6, .iload_n 1, 0), (7, .invokestatic 95, 0), (10, .ifCond .ne 10, 20), (13, .iload_n 2, 0), (14, .invokestatic 95, 0), (17, .ifCond .eq 7, 24), (20, .iconst 1, 1), (21, .goto 4, 25), (24, .iconst 0, 0), (25, .iconst 1, 1), (26, .invokevirtual 99, 0), (29, .ifCond .ne 26, 55), (32, .aload_n 0, 0), (33, .iload_n 3, 0), (34, .iconst 0, 0), (35, .bipush 9, 9), (37, .invokestatic 82, 0), (40, .ifCond .ne 7, 47), (43, .iconst 1, 1), (44, .goto 4, 48), (47, .iconst 0, 0), (48, .iconst 2, 2), (49, .invokevirtual 99, 0), (52, .ifCond .eq 4, 56), (55, .return_, 0), (56, .iconst 0, 0), (57, .istore 4, 0), (59, .iload 4, 0), (61, .bipush 60, 60), (63, .if_icmp .ge 27, 90), (66, .iload 4, 0), (68, .iload_n 1, 0), (69, .iload_n 2, 0), (70, .invokestatic 103, 0), (73, .ifCond .eq 11, 84), (76, .aload_n 0, 0), (77, .getfield 13, 0), (80, .iload 4, 0), (82, .iload_n 3, 0), (83, .iastore, 0), (84, .iinc 4 1, 1), (87, .goto (-28), 59), (90, .return_, 0)])
theorem mM_X9_soil_ok : m_okM mM_X9_soil = true := by decide +kernel
def mM_X9_free : mM := (yX9_free, cX9_free, 3, some .boolean, [], 9, [(0, .aload_n 0, 0), (1, .iconst 0, 0), (2, .putfield 79, 0), (5, .aload_n 0, 0), (6, .iload_n 1, 0), (7, .invokestatic 95, 0), (10, .iconst 1, 1), (11, .invokevirtual 99, 0), (14, .ifCond .ne 25, 39), (17, .aload_n 0, 0), (18, .getfield 16, 0), (21, .iload_n 1, 0), (22, .baload, 0), (23, .iload_n 2, 0), (24, .if_icmp .eq 15, 39), (27, .iload_n 2, 0), (28, .ifCond .eq 13, 41), (31, .aload_n 0, 0), (32, .getfield 106, 0), (35, .iconst 5, 5), (36, .if_icmp .ne 5, 41), (39, .iconst 0, 0), (40, .ireturn, 0), (41, .aload_n 0, 0), (42, .getfield 16, 0), (45, .iload_n 1, 0), (46, .iload_n 2, 0), (47, .bastore, 0), (48, .aload_n 0, 0), (49, .dup, 0), (50, .getfield 106, 0), (53, .iload_n 2, 0), (54, .ifCond .eq 7, 61), (57, .iconst 1, 1), (58, .goto 4, 62), (61, .iconst (-1), 1), (62, .iadd, 0), (63, .putfield 106, 0), (66, .iconst 1, 1), (67, .ireturn, 0)])
theorem mM_X9_free_ok : m_okM mM_X9_free = true := by decide +kernel
def mM_X9_gate : mM := (yX9_gate, cX9_gate, 2, none, [], 9, [(0, .aload_n 0, 0), (1, .iconst 0, 0), (2, .putfield 79, 0), (5, .aload_n 0, 0), (6, .iload_n 1, 0), (7, .invokestatic 95, 0), (10, .iconst 1, 1), (11, .invokevirtual 99, 0), (14, .ifCond .eq 4, 18), (17, .return_, 0), (18, .aload_n 0, 0), (19, .iload_n 1, 0), (20, .putfield 109, 0), (23, .return_, 0)])
theorem mM_X9_gate_ok : m_okM mM_X9_gate = true := by decide +kernel
def mM_X9_apart : mM := (yX9_apart, cX9_apart, 2, some .int, [], 9, [(0, .iload_n 0, 0), (1, .bipush 10, 10), (3, .irem, 0), (4, .iload_n 1, 0), (5, .bipush 10, 10), (7, .irem, 0), (8, .isub, 0), (9, .invokestatic 112, 0), (12, .iload_n 0, 0), (13, .bipush 10, 10), (15, .idiv, 0), (16, .iload_n 1, 0), (17, .bipush 10, 10), (19, .idiv, 0), (20, .isub, 0), (21, .invokestatic 112, 0), (24, .invokestatic 92, 0), (27, .ireturn, 0)])
theorem mM_X9_apart_ok : m_okM mM_X9_apart = true := by decide +kernel
def mM_X9_beside : mM := (yX9_beside, cX9_beside, 2, some .int, [], 9, [(0, .iload_n 1, 0), (1, .tableswitch 74 0 2 #[27, 42, 57], 0), (28, .iload_n 0, 0), (29, .bipush 10, 10), (31, .if_icmp .lt 10, 41), (34, .iload_n 0, 0), (35, .bipush 10, 10), (37, .isub, 0), (38, .goto 4, 42), (41, .iconst (-1), 1), (42, .ireturn, 0), (43, .iload_n 0, 0), (44, .bipush 10, 10), (46, .irem, 0), (47, .ifCond .le 9, 56), (50, .iload_n 0, 0), (51, .iconst 1, 1), (52, .isub, 0), (53, .goto 4, 57), (56, .iconst (-1), 1), (57, .ireturn, 0), (58, .iload_n 0, 0), (59, .bipush 10, 10), (61, .irem, 0), (62, .bipush 9, 9), (64, .if_icmp .ge 9, 73), (67, .iload_n 0, 0), (68, .iconst 1, 1), (69, .iadd, 0), (70, .goto 4, 74), (73, .iconst (-1), 1), (74, .ireturn, 0), (75, .iload_n 0, 0), (76, .bipush 50, 50), (78, .if_icmp .ge 10, 88), (81, .iload_n 0, 0), (82, .bipush 10, 10), (84, .iadd, 0), (85, .goto 4, 89), (88, .iconst (-1), 1), (89, .ireturn, 0)])
theorem mM_X9_beside_ok : m_okM mM_X9_beside = true := by decide +kernel
def mM_X9_feed : mM := (yX9_feed, cX9_feed, 7, some .int, [], 9, [(0, .aload_n 0, 0), (1, .iconst 0, 0), (2, .putfield 79, 0), (5, .aload_n 0, 0), (6, .getfield 116, 0), (9, .bipush 20, 20), (11, .iadd, 0), (12, .sipush 400, 400), (15, .if_icmp .le 5, 20), (18, .iconst (-1), 1), (19, .ireturn, 0), (20, .aload_n 0, 0), (21, .getfield 52, 0), (24, .iconst 0, 0), (25, .iload_n 1, 0), (26, .iastore, 0), (27, .aload_n 0, 0), (28, .getfield 52, 0), (31, .iconst 1, 1), (32, .iload_n 2, 0), (33, .iastore, 0), (34, .aload_n 0, 0), (35, .getfield 52, 0), (38, .iconst 2, 2), (39, .iload_n 3, 0), (40, .iastore, 0), (41, .aload_n 0, 0), (42, .getfield 52, 0), (45, .iconst 3, 3), (46, .iload 4, 0), (48, .iastore, 0), (49, .aload_n 0, 0), (50, .getfield 52, 0), (53, .iconst 4, 4), (54, .iload 5, 0), (56, .iastore, 0), (57, .iconst 0, 0), (58, .istore 6, 0), (60, .iload 6, 0), (62, .bipush 20, 20), (64, .if_icmp .ge 42, 106), (67, .aload_n 0, 0), (68, .getfield 44, 0), (71, .aload_n 0, 0), (72, .getfield 116, 0), (75, .iload 6, 0), (77, .iadd, 0), (78, .aload_n 0, 0), (79, .getfield 52, 0), (82, .iload 6, 0), (84, .iconst 4, 4), (85, .idiv, 0), (86, .iaload, 0), (87, .bipush 24, 24), (89, .bipush 8, 8), (91, .iload 6, 0), (93, .iconst 4, 4), (94, .irem, 0), (95, .imul, 0), (96, .isub, 0), (97, .ishr, 0), (98, .i2b, 0), (99, .bastore, 0), (100, .iinc 6 1, 1), (103, .goto (-43), 60), (106, .aload_n 0, 0), (107, .dup, 0), (108, .getfield 116, 0), (111, .bipush 20, 20), (113, .iadd, 0), (114, .putfield 116, 0), (117, .aload_n 0, 0), (118, .getfield 116, 0), (121, .ireturn, 0)])
theorem mM_X9_feed_ok : m_okM mM_X9_feed = true := by decide +kernel
def mM_X9_end : mM := (yX9_end, cX9_end, 2, some .boolean, [], 9, [(0, .aload_n 0, 0), (1, .iconst 0, 0), (2, .putfield 79, 0), (5, .iload_n 1, 0), (6, .ifCond .lt 11, 17), (9, .iload_n 1, 0), (10, .aload_n 0, 0), (11, .getfield 116, 0), (14, .if_icmp .le 5, 19), (17, .iconst 0, 0), (18, .ireturn, 0), (19, .aload_n 0, 0), (20, .iload_n 1, 0), (21, .putfield 116, 0), (24, .iconst 1, 1), (25, .ireturn, 0)])
theorem mM_X9_end_ok : m_okM mM_X9_end = true := by decide +kernel
def mM_X9_isAt : mM := (yX9_isAt, cX9_isAt, 3, some .boolean, [], 9, [(0, .aload_n 0, 0), (1, .getfield 119, 0), (4, .aload_n 0, 0), (5, .getfield 122, 0), (8, .if_icmp .ge 33, 41), (11, .aload_n 0, 0), (12, .getfield 44, 0), (15, .aload_n 0, 0), (16, .getfield 119, 0), (19, .baload, 0), (20, .iload_n 1, 0), (21, .if_icmp .lt 20, 41), (24, .aload_n 0, 0), (25, .getfield 44, 0), (28, .aload_n 0, 0), (29, .getfield 119, 0), (32, .baload, 0), (33, .iload_n 2, 0), (34, .if_icmp .gt 7, 41), (37, .iconst 1, 1), (38, .goto 4, 42), (41, .iconst 0, 0), (42, .ireturn, 0)])
theorem mM_X9_isAt_ok : m_okM mM_X9_isAt = true := by decide +kernel
def mM_X9_blanks : mM := (yX9_blanks, cX9_blanks, 1, none, [], 9, [(0, .aload_n 0, 0), (1, .bipush 32, 32), (3, .bipush 32, 32), (5, .invokevirtual 125, 0), (8, .ifCond .eq 16, 24), (11, .aload_n 0, 0), (12, .dup, 0), (13, .getfield 119, 0), (16, .iconst 1, 1), (17, .iadd, 0), (18, .putfield 119, 0), (21, .goto (-21), 0), (24, .aload_n 0, 0), (25, .aload_n 0, 0), (26, .getfield 119, 0), (29, .putfield 129, 0), (32, .return_, 0)])
theorem mM_X9_blanks_ok : m_okM mM_X9_blanks = true := by decide +kernel
def mM_X9_word : mM := (yX9_word, cX9_word, 1, none, [], 9, [(0, .aload_n 0, 0), (1, .invokevirtual 132, 0), (4, .aload_n 0, 0), (5, .bipush 97, 97), (7, .bipush 122, 122), (9, .invokevirtual 125, 0), (12, .ifCond .eq 16, 28), (15, .aload_n 0, 0), (16, .dup, 0), (17, .getfield 119, 0), (20, .iconst 1, 1), (21, .iadd, 0), (22, .putfield 119, 0), (25, .goto (-21), 4), (28, .return_, 0)])
theorem mM_X9_word_ok : m_okM mM_X9_word = true := by decide +kernel
def mM_X9_isWord : mM := (yX9_isWord, cX9_isWord, 4, some .boolean, [], 9, [(0, .aload_n 0, 0), (1, .getfield 119, 0), (4, .aload_n 0, 0), (5, .getfield 129, 0), (8, .isub, 0), (9, .aload_n 1, 0), (10, .invokevirtual 135, 0), (13, .if_icmp .ne 7, 20), (16, .iconst 1, 1), (17, .goto 4, 21), (20, .iconst 0, 0), (21, .istore_n 2, 0), (22, .iconst 0, 0), (23, .istore_n 3, 0), (24, .iload_n 2, 0), (25, .ifCond .eq 42, 67), (28, .iload_n 3, 0), (29, .aload_n 1, 0), (30, .invokevirtual 135, 0), (33, .if_icmp .ge 34, 67), (36, .aload_n 0, 0), (37, .getfield 44, 0), (40, .aload_n 0, 0), (41, .getfield 129, 0), (44, .iload_n 3, 0), (45, .iadd, 0), (46, .baload, 0), (47, .aload_n 1, 0), (48, .iload_n 3, 0), (49, .invokevirtual 141, 0), (52, .if_icmp .ne 7, 59), (55, .iconst 1, 1), (56, .goto 4, 60), (59, .iconst 0, 0), (60, .istore_n 2, 0), (61, .iinc 3 1, 1), (64, .goto (-40), 24), (67, .iload_n 2, 0), (68, .ireturn, 0)])
theorem mM_X9_isWord_ok : m_okM mM_X9_isWord = true := by decide +kernel
def mM_X9_need : mM := (yX9_need, cX9_need, 2, some .boolean, [], 9, [(0, .aload_n 0, 0), (1, .invokevirtual 145, 0), (4, .aload_n 0, 0), (5, .aload_n 1, 0), (6, .invokevirtual 148, 0), (9, .ireturn, 0)])
theorem mM_X9_need_ok : m_okM mM_X9_need = true := by decide +kernel
def mM_X9_number : mM := (yX9_number, cX9_number, 4, some .int, [], 9, [(0, .aload_n 0, 0), (1, .invokevirtual 132, 0), (4, .iconst 0, 0), (5, .istore_n 3, 0), (6, .aload_n 0, 0), (7, .bipush 48, 48), (9, .bipush 57, 57), (11, .invokevirtual 125, 0), (14, .ifCond .eq 51, 65), (17, .aload_n 0, 0), (18, .getfield 119, 0), (21, .aload_n 0, 0), (22, .getfield 129, 0), (25, .isub, 0), (26, .iconst 2, 2), (27, .if_icmp .ge 23, 50), (30, .bipush 10, 10), (32, .iload_n 3, 0), (33, .imul, 0), (34, .aload_n 0, 0), (35, .getfield 44, 0), (38, .aload_n 0, 0), (39, .getfield 119, 0), (42, .baload, 0), (43, .iadd, 0), (44, .bipush 48, 48), (46, .isub, 0), (47, .goto 4, 51), (50, .iload_n 3, 0), (51, .istore_n 3, 0), (52, .aload_n 0, 0), (53, .dup, 0), (54, .getfield 119, 0), (57, .iconst 1, 1), (58, .iadd, 0), (59, .putfield 119, 0), (62, .goto (-56), 6), (65, .aload_n 0, 0), (66, .getfield 119, 0), (69, .aload_n 0, 0), (70, .getfield 129, 0), (73, .if_icmp .eq 26, 99), (76, .aload_n 0, 0), (77, .getfield 119, 0), (80, .aload_n 0, 0), (81, .getfield 129, 0), (84, .isub, 0), (85, .iconst 2, 2), (86, .if_icmp .gt 13, 99), (89, .iload_n 3, 0), (90, .iload_n 1, 0), (91, .if_icmp .lt 8, 99), (94, .iload_n 3, 0), (95, .iload_n 2, 0), (96, .if_icmp .le 7, 103), (99, .iconst (-1), 1), (100, .goto 4, 104), (103, .iload_n 3, 0), (104, .ireturn, 0)])
theorem mM_X9_number_ok : m_okM mM_X9_number = true := by decide +kernel
def mM_X9_useOf : mM := (yX9_useOf, cX9_useOf, 1, some .int, [], 9, [(0, .aload_n 0, 0), (1, .ldc 152, 0), (3, .invokevirtual 148, 0), (6, .ifCond .eq 7, 13), (9, .iconst 0, 0), (10, .goto 56, 66), (13, .aload_n 0, 0), (14, .ldc 154, 0), (16, .invokevirtual 148, 0), (19, .ifCond .eq 7, 26), (22, .iconst 1, 1), (23, .goto 43, 66), (26, .aload_n 0, 0), (27, .ldc 156, 0), (29, .invokevirtual 148, 0), (32, .ifCond .eq 7, 39), (35, .iconst 2, 2), (36, .goto 30, 66), (39, .aload_n 0, 0), (40, .ldc 158, 0), (42, .invokevirtual 148, 0), (45, .ifCond .eq 7, 52), (48, .iconst 3, 3), (49, .goto 17, 66), (52, .aload_n 0, 0), (53, .ldc 160, 0), (55, .invokevirtual 148, 0), (58, .ifCond .eq 7, 65), (61, .iconst 4, 4), (62, .goto 4, 66), (65, .iconst (-1), 1), (66, .ireturn, 0)])
theorem mM_X9_useOf_ok : m_okM mM_X9_useOf = true := by decide +kernel
def mM_X9_readUse : mM := (yX9_readUse, cX9_readUse, 1, some .int, [], 9, [(0, .aload_n 0, 0), (1, .invokevirtual 145, 0), (4, .aload_n 0, 0), (5, .invokevirtual 162, 0), (8, .ireturn, 0)])
theorem mM_X9_readUse_ok : m_okM mM_X9_readUse = true := by decide +kernel
def mM_X9_readWorth : mM := (yX9_readWorth, cX9_readWorth, 4, some .boolean, [], 9, [(0, .aload_n 0, 0), (1, .invokevirtual 145, 0), (4, .aload_n 0, 0), (5, .ldc 165, 0), (7, .invokevirtual 148, 0), (10, .istore_n 2, 0), (11, .iload_n 2, 0), (12, .ifCond .ne 16, 28), (15, .aload_n 0, 0), (16, .getfield 119, 0), (19, .aload_n 0, 0), (20, .getfield 129, 0), (23, .if_icmp .le 5, 28), (26, .iconst 0, 0), (27, .ireturn, 0), (28, .aload_n 0, 0), (29, .iconst 0, 0), (30, .bipush 99, 99), (32, .invokevirtual 167, 0), (35, .istore_n 3, 0), (36, .iload_n 3, 0), (37, .ifCond .ge 5, 42), (40, .iconst 0, 0), (41, .ireturn, 0), (42, .aload_n 0, 0), (43, .getfield 32, 0), (46, .iload_n 1, 0), (47, .iload_n 2, 0), (48, .ifCond .eq 8, 56), (51, .iload_n 3, 0), (52, .ineg, 0), (53, .goto 4, 57), (56, .iload_n 3, 0), (57, .iastore, 0), (58, .aload_n 0, 0), (59, .invokevirtual 145, 0), (62, .aload_n 0, 0), (63, .ldc 170, 0), (65, .invokevirtual 148, 0), (68, .ifCond .eq 58, 126), (71, .aload_n 0, 0), (72, .getfield 20, 0), (75, .iload_n 1, 0), (76, .iconst 0, 0), (77, .iastore, 0), (78, .aload_n 0, 0), (79, .getfield 26, 0), (82, .iload_n 1, 0), (83, .aload_n 0, 0), (84, .invokevirtual 172, 0), (87, .iastore, 0), (88, .aload_n 0, 0), (89, .getfield 26, 0), (92, .iload_n 1, 0), (93, .iaload, 0), (94, .ifCond .ge 5, 99), (97, .iconst 0, 0), (98, .ireturn, 0), (99, .aload_n 0, 0), (100, .getfield 35, 0), (103, .iload_n 1, 0), (104, .aload_n 0, 0), (105, .iconst 1, 1), (106, .iconst 5, 5), (107, .invokevirtual 167, 0), (110, .iastore, 0), (111, .aload_n 0, 0), (112, .getfield 35, 0), (115, .iload_n 1, 0), (116, .iaload, 0), (117, .ifCond .lt 7, 124), (120, .iconst 1, 1), (121, .goto 4, 125), (124, .iconst 0, 0), (125, .ireturn, 0), (126, .aload_n 0, 0), (127, .getfield 20, 0), (130, .iload_n 1, 0), (131, .iconst 1, 1), (132, .iastore, 0), (133, .aload_n 0, 0), (134, .ldc 175, 0), (136, .invokevirtual 148, 0), (139, .ifCond .ne 5, 144), (142, .iconst 0, 0), (143, .ireturn, 0), (144, .aload_n 0, 0), (145, .getfield 35, 0), (148, .iload_n 1, 0), (149, .aload_n 0, 0), (150, .iconst 0, 0), (151, .bipush 9, 9), (153, .invokevirtual 167, 0), (156, .iastore, 0), (157, .aload_n 0, 0), (158, .getfield 35, 0), (161, .iload_n 1, 0), (162, .iaload, 0), (163, .ifCond .lt 7, 170), (166, .iconst 1, 1), (167, .goto 4, 171), (170, .iconst 0, 0), (171, .ireturn, 0)])
theorem mM_X9_readWorth_ok : m_okM mM_X9_readWorth = true := by decide +kernel
def mM_X9_readLaw : mM := (yX9_readLaw, cX9_readLaw, 2, some .boolean, [], 9, [(0, .aload_n 0, 0), (1, .getfield 23, 0), (4, .iload_n 1, 0), (5, .aload_n 0, 0), (6, .invokevirtual 172, 0), (9, .iastore, 0), (10, .aload_n 0, 0), (11, .getfield 23, 0), (14, .iload_n 1, 0), (15, .iaload, 0), (16, .ifCond .ge 5, 21), (19, .iconst 0, 0), (20, .ireturn, 0), (21, .aload_n 0, 0), (22, .invokevirtual 145, 0), (25, .aload_n 0, 0), (26, .ldc 177, 0), (28, .invokevirtual 148, 0), (31, .ifCond .eq 12, 43), (34, .aload_n 0, 0), (35, .getfield 20, 0), (38, .iload_n 1, 0), (39, .iconst 5, 5), (40, .iastore, 0), (41, .iconst 1, 1), (42, .ireturn, 0), (43, .aload_n 0, 0), (44, .ldc 179, 0), (46, .invokevirtual 148, 0), (49, .ifCond .eq 58, 107), (52, .aload_n 0, 0), (53, .getfield 20, 0), (56, .iload_n 1, 0), (57, .iconst 2, 2), (58, .iastore, 0), (59, .aload_n 0, 0), (60, .getfield 26, 0), (63, .iload_n 1, 0), (64, .aload_n 0, 0), (65, .invokevirtual 172, 0), (68, .iastore, 0), (69, .aload_n 0, 0), (70, .getfield 26, 0), (73, .iload_n 1, 0), (74, .iaload, 0), (75, .ifCond .ge 5, 80), (78, .iconst 0, 0), (79, .ireturn, 0), (80, .aload_n 0, 0), (81, .getfield 35, 0), (84, .iload_n 1, 0), (85, .aload_n 0, 0), (86, .iconst 1, 1), (87, .iconst 5, 5), (88, .invokevirtual 167, 0), (91, .iastore, 0), (92, .aload_n 0, 0), (93, .getfield 35, 0), (96, .iload_n 1, 0), (97, .iaload, 0), (98, .ifCond .lt 7, 105), (101, .iconst 1, 1), (102, .goto 4, 106), (105, .iconst 0, 0), (106, .ireturn, 0), (107, .aload_n 0, 0), (108, .getfield 20, 0), (111, .iload_n 1, 0), (112, .aload_n 0, 0), (113, .ldc 181, 0), (115, .invokevirtual 148, 0), (118, .ifCond .eq 7, 125), (121, .iconst 3, 3), (122, .goto 4, 126), (125, .iconst 4, 4), (126, .iastore, 0), (127, .aload_n 0, 0), (128, .ldc 181, 0), (130, .invokevirtual 148, 0), (133, .ifCond .ne 14, 147), (136, .aload_n 0, 0), (137, .ldc 182, 0), (139, .invokevirtual 148, 0), (142, .ifCond .ne 5, 147), (145, .iconst 0, 0), (146, .ireturn, 0), (147, .aload_n 0, 0), (148, .getfield 38, 0), (151, .iload_n 1, 0), (152, .aload_n 0, 0), (153, .iconst 0, 0), (154, .bipush 99, 99), (156, .invokevirtual 167, 0), (159, .iastore, 0), (160, .aload_n 0, 0), (161, .getfield 38, 0), (164, .iload_n 1, 0), (165, .iaload, 0), (166, .ifCond .lt 7, 173), (169, .iconst 1, 1), (170, .goto 4, 174), (173, .iconst 0, 0), (174, .ireturn, 0)])
theorem mM_X9_readLaw_ok : m_okM mM_X9_readLaw = true := by decide +kernel
def mM_X9_readGrow : mM := (yX9_readGrow, cX9_readGrow, 2, some .boolean, [], 9, [(0, .aload_n 0, 0), (1, .getfield 20, 0), (4, .iload_n 1, 0), (5, .bipush 6, 6), (7, .iastore, 0), (8, .aload_n 0, 0), (9, .getfield 23, 0), (12, .iload_n 1, 0), (13, .aload_n 0, 0), (14, .invokevirtual 172, 0), (17, .iastore, 0), (18, .aload_n 0, 0), (19, .getfield 23, 0), (22, .iload_n 1, 0), (23, .iaload, 0), (24, .ifCond .lt 12, 36), (27, .aload_n 0, 0), (28, .ldc 184, 0), (30, .invokevirtual 186, 0), (33, .ifCond .ne 5, 38), (36, .iconst 0, 0), (37, .ireturn, 0), (38, .aload_n 0, 0), (39, .getfield 26, 0), (42, .iload_n 1, 0), (43, .aload_n 0, 0), (44, .invokevirtual 172, 0), (47, .iastore, 0), (48, .aload_n 0, 0), (49, .getfield 26, 0), (52, .iload_n 1, 0), (53, .iaload, 0), (54, .ifCond .lt 12, 66), (57, .aload_n 0, 0), (58, .ldc 189, 0), (60, .invokevirtual 186, 0), (63, .ifCond .ne 5, 68), (66, .iconst 0, 0), (67, .ireturn, 0), (68, .aload_n 0, 0), (69, .getfield 29, 0), (72, .iload_n 1, 0), (73, .aload_n 0, 0), (74, .invokevirtual 172, 0), (77, .iastore, 0), (78, .aload_n 0, 0), (79, .getfield 29, 0), (82, .iload_n 1, 0), (83, .iaload, 0), (84, .ifCond .lt 12, 96), (87, .aload_n 0, 0), (88, .ldc 170, 0), (90, .invokevirtual 186, 0), (93, .ifCond .ne 5, 98), (96, .iconst 0, 0), (97, .ireturn, 0), (98, .aload_n 0, 0), (99, .getfield 35, 0), (102, .iload_n 1, 0), (103, .aload_n 0, 0), (104, .iconst 1, 1), (105, .iconst 5, 5), (106, .invokevirtual 167, 0), (109, .iastore, 0), (110, .aload_n 0, 0), (111, .getfield 35, 0), (114, .iload_n 1, 0), (115, .iaload, 0), (116, .ifCond .ge 5, 121), (119, .iconst 0, 0), (120, .ireturn, 0), (121, .aload_n 0, 0), (122, .getfield 38, 0), (125, .iload_n 1, 0), (126, .aload_n 0, 0), (127, .iconst 1, 1), (128, .bipush 60, 60), (130, .invokevirtual 167, 0), (133, .iastore, 0), (134, .aload_n 0, 0), (135, .getfield 38, 0), (138, .iload_n 1, 0), (139, .iaload, 0), (140, .ifCond .lt 7, 147), (143, .iconst 1, 1), (144, .goto 4, 148), (147, .iconst 0, 0), (148, .ireturn, 0)])
theorem mM_X9_readGrow_ok : m_okM mM_X9_readGrow = true := by decide +kernel
def mM_X9_readLine : mM := (yX9_readLine, cX9_readLine, 3, some .boolean, [], 9, [(0, .aload_n 0, 0), (1, .invokevirtual 145, 0), (4, .iload_n 1, 0), (5, .bipush 14, 14), (7, .if_icmp .ne 5, 12), (10, .iconst 0, 0), (11, .ireturn, 0), (12, .bipush 14, 14), (14, .iload_n 1, 0), (15, .iadd, 0), (16, .istore_n 2, 0), (17, .aload_n 0, 0), (18, .ldc 191, 0), (20, .invokevirtual 148, 0), (23, .ifCond .eq 9, 32), (26, .aload_n 0, 0), (27, .iload_n 2, 0), (28, .invokevirtual 193, 0), (31, .ireturn, 0), (32, .aload_n 0, 0), (33, .ldc 196, 0), (35, .invokevirtual 148, 0), (38, .ifCond .eq 9, 47), (41, .aload_n 0, 0), (42, .iload_n 2, 0), (43, .invokevirtual 198, 0), (46, .ireturn, 0), (47, .aload_n 0, 0), (48, .getfield 23, 0), (51, .iload_n 2, 0), (52, .aload_n 0, 0), (53, .invokevirtual 162, 0), (56, .iastore, 0), (57, .aload_n 0, 0), (58, .getfield 23, 0), (61, .iload_n 2, 0), (62, .iaload, 0), (63, .ifCond .lt 15, 78), (66, .aload_n 0, 0), (67, .iload_n 2, 0), (68, .invokevirtual 201, 0), (71, .ifCond .eq 7, 78), (74, .iconst 1, 1), (75, .goto 4, 79), (78, .iconst 0, 0), (79, .ireturn, 0)])
theorem mM_X9_readLine_ok : m_okM mM_X9_readLine = true := by decide +kernel
def mM_X9_readAll : mM := (yX9_readAll, cX9_readAll, 2, some .int, [], 9, [(0, .aload_n 0, 0), (1, .aload_n 0, 0), (2, .getfield 116, 0), (5, .putfield 122, 0), (8, .aload_n 0, 0), (9, .iconst 0, 0), (10, .putfield 116, 0), (13, .aload_n 0, 0), (14, .iconst 0, 0), (15, .putfield 119, 0), (18, .aload_n 0, 0), (19, .invokevirtual 132, 0), (22, .aload_n 0, 0), (23, .getfield 119, 0), (26, .aload_n 0, 0), (27, .getfield 122, 0), (30, .if_icmp .ne 5, 35), (33, .iconst 0, 0), (34, .ireturn, 0), (35, .iconst 0, 0), (36, .istore_n 1, 0), (37, .aload_n 0, 0), (38, .iload_n 1, 0), (39, .invokevirtual 204, 0), (42, .ifCond .ne 5, 47), (45, .iconst (-1), 1), (46, .ireturn, 0), (47, .aload_n 0, 0), (48, .invokevirtual 132, 0), (51, .aload_n 0, 0), (52, .getfield 119, 0), (55, .aload_n 0, 0), (56, .getfield 122, 0), (59, .if_icmp .ne 7, 66), (62, .iload_n 1, 0), (63, .iconst 1, 1), (64, .iadd, 0), (65, .ireturn, 0), (66, .aload_n 0, 0), (67, .bipush 59, 59), (69, .bipush 59, 59), (71, .invokevirtual 125, 0), (74, .ifCond .ne 5, 79), (77, .iconst (-1), 1), (78, .ireturn, 0), (79, .aload_n 0, 0), (80, .dup, 0), (81, .getfield 119, 0), (84, .iconst 1, 1), (85, .iadd, 0), (86, .putfield 119, 0), (89, .iinc 1 1, 1), (92, .goto (-55), 37)])
theorem mM_X9_readAll_ok : m_okM mM_X9_readAll = true := by decide +kernel
def mM_X9_book : mM := (yX9_book, cX9_book, 3, some .int, [], 9, [(0, .aload_n 0, 0), (1, .iconst 0, 0), (2, .putfield 79, 0), (5, .aload_n 0, 0), (6, .invokevirtual 207, 0), (9, .istore_n 1, 0), (10, .aload_n 0, 0), (11, .iload_n 1, 0), (12, .ifCond .ge 10, 22), (15, .aload_n 0, 0), (16, .getfield 129, 0), (19, .goto 4, 23), (22, .iconst (-1), 1), (23, .putfield 48, 0), (26, .aload_n 0, 0), (27, .iload_n 1, 0), (28, .ifCond .ge 7, 35), (31, .iconst 1, 1), (32, .goto 4, 36), (35, .iconst 0, 0), (36, .iconst 1, 1), (37, .invokevirtual 99, 0), (40, .ifCond .eq 5, 45), (43, .iconst 0, 0), (44, .ireturn, 0), (45, .aload_n 0, 0), (46, .iload_n 1, 0), (47, .putfield 210, 0), (50, .iconst 0, 0), (51, .istore_n 2, 0), (52, .iload_n 2, 0), (53, .iload_n 1, 0), (54, .if_icmp .ge 114, 168), (57, .aload_n 0, 0), (58, .getfield 20, 0), (61, .iload_n 2, 0), (62, .aload_n 0, 0), (63, .getfield 20, 0), (66, .bipush 14, 14), (68, .iload_n 2, 0), (69, .iadd, 0), (70, .iaload, 0), (71, .iastore, 0), (72, .aload_n 0, 0), (73, .getfield 23, 0), (76, .iload_n 2, 0), (77, .aload_n 0, 0), (78, .getfield 23, 0), (81, .bipush 14, 14), (83, .iload_n 2, 0), (84, .iadd, 0), (85, .iaload, 0), (86, .iastore, 0), (87, .aload_n 0, 0), (88, .getfield 26, 0), (91, .iload_n 2, 0), (92, .aload_n 0, 0), (93, .getfield 26, 0), (96, .bipush 14, 14), (98, .iload_n 2, 0), (99, .iadd, 0), (100, .iaload, 0), (101, .iastore, 0), (102, .aload_n 0, 0), (103, .getfield 29, 0), (106, .iload_n 2, 0), (107, .aload_n 0, 0), (108, .getfield 29, 0), (111, .bipush 14, 14), (113, .iload_n 2, 0), (114, .iadd, 0), (115, .iaload, 0), (116, .iastore, 0), (117, .aload_n 0, 0), (118, .getfield 32, 0), (121, .iload_n 2, 0), (122, .aload_n 0, 0), (123, .getfield 32, 0), (126, .bipush 14, 14), (128, .iload_n 2, 0), (129, .iadd, 0), (130, .iaload, 0), (131, .iastore, 0), (132, .aload_n 0, 0), (133, .getfield 35, 0), (136, .iload_n 2, 0), (137, .aload_n 0, 0), (138, .getfield 35, 0), (141, .bipush 14, 14), (143, .iload_n 2, 0), (144, .iadd, 0), (145, .iaload, 0), (146, .iastore, 0), (147, .aload_n 0, 0), (148, .getfield 38, 0), (151, .iload_n 2, 0), (152, .aload_n 0, 0), (153, .getfield 38, 0), (156, .bipush 14, 14), (158, .iload_n 2, 0), (159, .iadd, 0), (160, .iaload, 0), (161, .iastore, 0), (162, .iinc 2 1, 1), (165, .goto (-113), 52), (168, .iload_n 1, 0), (169, .ireturn, 0)])
theorem mM_X9_book_ok : m_okM mM_X9_book = true := by decide +kernel
def mM_X9_fault : mM := (yX9_fault, cX9_fault, 1, some .int, [], 9, [(0, .aload_n 0, 0), (1, .iconst 0, 0), (2, .putfield 79, 0), (5, .aload_n 0, 0), (6, .getfield 48, 0), (9, .ireturn, 0)])
theorem mM_X9_fault_ok : m_okM mM_X9_fault = true := by decide +kernel
def mM_X9_pair : mM := (yX9_pair, cX9_pair, 6, some .int, [], 9, [(0, .aload_n 0, 0), (1, .getfield 20, 0), (4, .iload_n 1, 0), (5, .iaload, 0), (6, .ifCond .ne 18, 24), (9, .iload_n 2, 0), (10, .iload 4, 0), (12, .invokestatic 213, 0), (15, .aload_n 0, 0), (16, .getfield 35, 0), (19, .iload_n 1, 0), (20, .iaload, 0), (21, .if_icmp .le 5, 26), (24, .iconst 0, 0), (25, .ireturn, 0), (26, .aload_n 0, 0), (27, .getfield 23, 0), (30, .iload_n 1, 0), (31, .iaload, 0), (32, .iload_n 3, 0), (33, .if_icmp .ne 23, 56), (36, .aload_n 0, 0), (37, .getfield 26, 0), (40, .iload_n 1, 0), (41, .iaload, 0), (42, .iload 5, 0), (44, .if_icmp .ne 12, 56), (47, .aload_n 0, 0), (48, .getfield 32, 0), (51, .iload_n 1, 0), (52, .iaload, 0), (53, .goto 4, 57), (56, .iconst 0, 0), (57, .aload_n 0, 0), (58, .getfield 23, 0), (61, .iload_n 1, 0), (62, .iaload, 0), (63, .iload 5, 0), (65, .if_icmp .ne 22, 87), (68, .aload_n 0, 0), (69, .getfield 26, 0), (72, .iload_n 1, 0), (73, .iaload, 0), (74, .iload_n 3, 0), (75, .if_icmp .ne 12, 87), (78, .aload_n 0, 0), (79, .getfield 32, 0), (82, .iload_n 1, 0), (83, .iaload, 0), (84, .goto 4, 88), (87, .iconst 0, 0), (88, .iadd, 0), (89, .ireturn, 0)])
theorem mM_X9_pair_ok : m_okM mM_X9_pair = true := by decide +kernel
def mM_X9_alone : mM := (yX9_alone, cX9_alone, 4, some .int, [], 9, [(0, .aload_n 0, 0), (1, .getfield 20, 0), (4, .iload_n 1, 0), (5, .iaload, 0), (6, .iconst 1, 1), (7, .if_icmp .ne 37, 44), (10, .aload_n 0, 0), (11, .getfield 23, 0), (14, .iload_n 1, 0), (15, .iaload, 0), (16, .iload_n 3, 0), (17, .if_icmp .ne 27, 44), (20, .aload_n 0, 0), (21, .getfield 13, 0), (24, .iload_n 2, 0), (25, .iaload, 0), (26, .aload_n 0, 0), (27, .getfield 35, 0), (30, .iload_n 1, 0), (31, .iaload, 0), (32, .if_icmp .lt 12, 44), (35, .aload_n 0, 0), (36, .getfield 32, 0), (39, .iload_n 1, 0), (40, .iaload, 0), (41, .goto 4, 45), (44, .iconst 0, 0), (45, .ireturn, 0)])
theorem mM_X9_alone_ok : m_okM mM_X9_alone = true := by decide +kernel
def mM_X9_addsOf : mM := (yX9_addsOf, cX9_addsOf, 5, some .int, [], 9, [(0, .iconst 0, 0), (1, .istore_n 2, 0), (2, .iconst 0, 0), (3, .istore_n 3, 0), (4, .iload_n 3, 0), (5, .bipush 60, 60), (7, .if_icmp .ge 63, 70), (10, .iload_n 2, 0), (11, .aload_n 0, 0), (12, .iload_n 1, 0), (13, .iload_n 3, 0), (14, .aload_n 0, 0), (15, .getfield 9, 0), (18, .iload_n 3, 0), (19, .iaload, 0), (20, .invokevirtual 215, 0), (23, .iadd, 0), (24, .istore_n 2, 0), (25, .iconst 0, 0), (26, .istore 4, 0), (28, .iload 4, 0), (30, .iload_n 3, 0), (31, .if_icmp .ge 33, 64), (34, .iload_n 2, 0), (35, .aload_n 0, 0), (36, .iload_n 1, 0), (37, .iload_n 3, 0), (38, .aload_n 0, 0), (39, .getfield 9, 0), (42, .iload_n 3, 0), (43, .iaload, 0), (44, .iload 4, 0), (46, .aload_n 0, 0), (47, .getfield 9, 0), (50, .iload 4, 0), (52, .iaload, 0), (53, .invokevirtual 219, 0), (56, .iadd, 0), (57, .istore_n 2, 0), (58, .iinc 4 1, 1), (61, .goto (-33), 28), (64, .iinc 3 1, 1), (67, .goto (-63), 4), (70, .iload_n 2, 0), (71, .ireturn, 0)])
theorem mM_X9_addsOf_ok : m_okM mM_X9_addsOf = true := by decide +kernel
def mM_X9_worthOf : mM := (yX9_worthOf, cX9_worthOf, 3, some .int, [], 9, [(0, .iconst 0, 0), (1, .istore_n 1, 0), (2, .iconst 0, 0), (3, .istore_n 2, 0), (4, .iload_n 2, 0), (5, .aload_n 0, 0), (6, .getfield 210, 0), (9, .if_icmp .ge 17, 26), (12, .iload_n 1, 0), (13, .aload_n 0, 0), (14, .iload_n 2, 0), (15, .invokevirtual 223, 0), (18, .iadd, 0), (19, .istore_n 1, 0), (20, .iinc 2 1, 1), (23, .goto (-19), 4), (26, .iload_n 1, 0), (27, .ireturn, 0)])
theorem mM_X9_worthOf_ok : m_okM mM_X9_worthOf = true := by decide +kernel
def mM_X9_worth : mM := (yX9_worth, cX9_worth, 1, some .int, [], 9, [(0, .aload_n 0, 0), (1, .iconst 0, 0), (2, .putfield 79, 0), (5, .aload_n 0, 0), (6, .invokevirtual 226, 0), (9, .ireturn, 0)])
theorem mM_X9_worth_ok : m_okM mM_X9_worth = true := by decide +kernel
def mM_X9_adds : mM := (yX9_adds, cX9_adds, 2, some .int, [], 9, [(0, .aload_n 0, 0), (1, .iconst 0, 0), (2, .putfield 79, 0), (5, .aload_n 0, 0), (6, .iload_n 1, 0), (7, .iconst 0, 0), (8, .aload_n 0, 0), (9, .getfield 210, 0), (12, .iconst 1, 1), (13, .isub, 0), (14, .invokestatic 82, 0), (17, .ifCond .ne 7, 24), (20, .iconst 1, 1), (21, .goto 4, 25), (24, .iconst 0, 0), (25, .iconst 1, 1), (26, .invokevirtual 99, 0), (29, .ifCond .eq 7, 36), (32, .iconst 0, 0), (33, .goto 8, 41), (36, .aload_n 0, 0), (37, .iload_n 1, 0), (38, .invokevirtual 223, 0), (41, .ireturn, 0)])
theorem mM_X9_adds_ok : m_okM mM_X9_adds = true := by decide +kernel
def mM_X9_isLaw : mM := (yX9_isLaw, cX9_isLaw, 2, some .boolean, [], 9, [(0, .aload_n 0, 0), (1, .getfield 20, 0), (4, .iload_n 1, 0), (5, .iaload, 0), (6, .iconst 2, 2), (7, .iconst 5, 5), (8, .invokestatic 82, 0), (11, .ireturn, 0)])
theorem mM_X9_isLaw_ok : m_okM mM_X9_isLaw = true := by decide +kernel
def mM_X9_countOf : mM := (yX9_countOf, cX9_countOf, 4, some .int, [], 9, [(0, .iconst 0, 0), (1, .istore_n 2, 0), (2, .iconst 0, 0), (3, .istore_n 3, 0), (4, .iload_n 3, 0), (5, .bipush 60, 60), (7, .if_icmp .ge 27, 34), (10, .iload_n 2, 0), (11, .aload_n 0, 0), (12, .getfield 9, 0), (15, .iload_n 3, 0), (16, .iaload, 0), (17, .iload_n 1, 0), (18, .if_icmp .ne 7, 25), (21, .iconst 1, 1), (22, .goto 4, 26), (25, .iconst 0, 0), (26, .iadd, 0), (27, .istore_n 2, 0), (28, .iinc 3 1, 1), (31, .goto (-27), 4), (34, .iload_n 2, 0), (35, .ireturn, 0)])
theorem mM_X9_countOf_ok : m_okM mM_X9_countOf = true := by decide +kernel
def mM_X9_areApart : mM := (yX9_areApart, cX9_areApart, 4, some .boolean, [], 9, [(0, .iconst 0, 0), (1, .istore_n 2, 0), (2, .iload_n 2, 0), (3, .bipush 60, 60), (5, .if_icmp .ge 74, 79), (8, .iconst 0, 0), (9, .istore_n 3, 0), (10, .iload_n 3, 0), (11, .bipush 60, 60), (13, .if_icmp .ge 60, 73), (16, .iload_n 2, 0), (17, .iload_n 3, 0), (18, .if_icmp .eq 49, 67), (21, .aload_n 0, 0), (22, .getfield 9, 0), (25, .iload_n 2, 0), (26, .iaload, 0), (27, .aload_n 0, 0), (28, .getfield 23, 0), (31, .iload_n 1, 0), (32, .iaload, 0), (33, .if_icmp .ne 34, 67), (36, .aload_n 0, 0), (37, .getfield 9, 0), (40, .iload_n 3, 0), (41, .iaload, 0), (42, .aload_n 0, 0), (43, .getfield 26, 0), (46, .iload_n 1, 0), (47, .iaload, 0), (48, .if_icmp .ne 19, 67), (51, .iload_n 2, 0), (52, .iload_n 3, 0), (53, .invokestatic 213, 0), (56, .aload_n 0, 0), (57, .getfield 35, 0), (60, .iload_n 1, 0), (61, .iaload, 0), (62, .if_icmp .ge 5, 67), (65, .iconst 0, 0), (66, .ireturn, 0), (67, .iinc 3 1, 1), (70, .goto (-60), 10), (73, .iinc 2 1, 1), (76, .goto (-74), 2), (79, .iconst 1, 1), (80, .ireturn, 0)])
theorem mM_X9_areApart_ok : m_okM mM_X9_areApart = true := by decide +kernel
def mM_X9_areJoined : mM := (yX9_areJoined, cX9_areJoined, 7, some .boolean, [], 9, [(0, .iconst (-1), 1), (1, .istore_n 2, 0), (2, .iconst 0, 0), (3, .istore_n 3, 0), (4, .iload_n 3, 0), (5, .bipush 60, 60), (7, .if_icmp .ge 45, 52), (10, .aload_n 0, 0), (11, .getfield 55, 0), (14, .iload_n 3, 0), (15, .iload_n 2, 0), (16, .ifCond .ge 17, 33), (19, .aload_n 0, 0), (20, .getfield 9, 0), (23, .iload_n 3, 0), (24, .iaload, 0), (25, .iload_n 1, 0), (26, .if_icmp .ne 7, 33), (29, .iconst 1, 1), (30, .goto 4, 34), (33, .iconst 0, 0), (34, .bastore, 0), (35, .aload_n 0, 0), (36, .getfield 55, 0), (39, .iload_n 3, 0), (40, .baload, 0), (41, .ifCond .eq 5, 46), (44, .iload_n 3, 0), (45, .istore_n 2, 0), (46, .iinc 3 1, 1), (49, .goto (-45), 4), (52, .iload_n 2, 0), (53, .ifCond .lt 7, 60), (56, .iconst 1, 1), (57, .goto 4, 61), (60, .iconst 0, 0), (61, .istore_n 3, 0), (62, .iload_n 3, 0), (63, .ifCond .eq 127, 190), (66, .iconst 0, 0), (67, .istore_n 3, 0), (68, .iconst 0, 0), (69, .istore 4, 0), (71, .iload 4, 0), (73, .bipush 60, 60), (75, .if_icmp .ge 112, 187), (78, .aload_n 0, 0), (79, .getfield 55, 0), (82, .iload 4, 0), (84, .baload, 0), (85, .ifCond .ne 96, 181), (88, .aload_n 0, 0), (89, .getfield 9, 0), (92, .iload 4, 0), (94, .iaload, 0), (95, .iload_n 1, 0), (96, .if_icmp .eq 6, 102), (99, .goto 82, 181), (102, .iconst 0, 0), (103, .istore 5, 0), (105, .iconst 0, 0), (106, .istore 6, 0), (108, .iload 6, 0), (110, .iconst 4, 4), (111, .if_icmp .ge 46, 157), (114, .iload 5, 0), (116, .ifCond .ne 28, 144), (119, .iload 4, 0), (121, .iload 6, 0), (123, .invokestatic 229, 0), (126, .ifCond .lt 22, 148), (129, .aload_n 0, 0), (130, .getfield 55, 0), (133, .iload 4, 0), (135, .iload 6, 0), (137, .invokestatic 229, 0), (140, .baload, 0), (141, .ifCond .eq 7, 148), (144, .iconst 1, 1), (145, .goto 4, 149), (148, .iconst 0, 0), (149, .istore 5, 0), (151, .iinc 6 1, 1), (154, .goto (-46), 108), (157, .aload_n 0, 0), (158, .getfield 55, 0), (161, .iload 4, 0), (163, .iload 5, 0), (165, .bastore, 0), (166, .iload_n 3, 0), (167, .ifCond .ne 8, 175), (170, .iload 5, 0), (172, .ifCond .eq 7, 179), (175, .iconst 1, 1), (176, .goto 4, 180), (179, .iconst 0, 0), (180, .istore_n 3, 0), (181, .iinc 4 1, 1), (184, .goto (-113), 71), (187, .goto (-125), 62), (190, .iconst 1, 1), (191, .istore 4, 0), (193, .iconst 0, 0), (194, .istore 5, 0), (196, .iload 5, 0), (198, .bipush 60, 60), (200, .if_icmp .ge 42, 242), (203, .iload 4, 0), (205, .ifCond .eq 28, 233), (208, .aload_n 0, 0), (209, .getfield 9, 0), (212, .iload 5, 0), (214, .iaload, 0), (215, .iload_n 1, 0), (216, .if_icmp .ne 13, 229), (219, .aload_n 0, 0), (220, .getfield 55, 0), (223, .iload 5, 0), (225, .baload, 0), (226, .ifCond .eq 7, 233), (229, .iconst 1, 1), (230, .goto 4, 234), (233, .iconst 0, 0), (234, .istore 4, 0), (236, .iinc 5 1, 1), (239, .goto (-43), 196), (242, .iload 4, 0), (244, .ireturn, 0)])
theorem mM_X9_areJoined_ok : m_okM mM_X9_areJoined = true := by decide +kernel
def mM_X9_holds : mM := (yX9_holds, cX9_holds, 2, some .boolean, [], 9, [(0, .aload_n 0, 0), (1, .getfield 20, 0), (4, .iload_n 1, 0), (5, .iaload, 0), (6, .tableswitch 97 2 5 #[30, 36, 61, 86], 0), (36, .aload_n 0, 0), (37, .iload_n 1, 0), (38, .invokevirtual 232, 0), (41, .ireturn, 0), (42, .aload_n 0, 0), (43, .aload_n 0, 0), (44, .getfield 23, 0), (47, .iload_n 1, 0), (48, .iaload, 0), (49, .invokevirtual 235, 0), (52, .aload_n 0, 0), (53, .getfield 38, 0), (56, .iload_n 1, 0), (57, .iaload, 0), (58, .if_icmp .lt 7, 65), (61, .iconst 1, 1), (62, .goto 4, 66), (65, .iconst 0, 0), (66, .ireturn, 0), (67, .aload_n 0, 0), (68, .aload_n 0, 0), (69, .getfield 23, 0), (72, .iload_n 1, 0), (73, .iaload, 0), (74, .invokevirtual 235, 0), (77, .aload_n 0, 0), (78, .getfield 38, 0), (81, .iload_n 1, 0), (82, .iaload, 0), (83, .if_icmp .gt 7, 90), (86, .iconst 1, 1), (87, .goto 4, 91), (90, .iconst 0, 0), (91, .ireturn, 0), (92, .aload_n 0, 0), (93, .aload_n 0, 0), (94, .getfield 23, 0), (97, .iload_n 1, 0), (98, .iaload, 0), (99, .invokevirtual 238, 0), (102, .ireturn, 0), (103, .iconst 1, 1), (104, .ireturn, 0)])
theorem mM_X9_holds_ok : m_okM mM_X9_holds = true := by decide +kernel
def mM_X9_broken : mM := (yX9_broken, cX9_broken, 2, some .int, [], 9, [(0, .aload_n 0, 0), (1, .iconst 0, 0), (2, .putfield 79, 0), (5, .iconst 0, 0), (6, .istore_n 1, 0), (7, .iload_n 1, 0), (8, .aload_n 0, 0), (9, .getfield 210, 0), (12, .if_icmp .ge 19, 31), (15, .aload_n 0, 0), (16, .iload_n 1, 0), (17, .invokevirtual 241, 0), (20, .ifCond .ne 5, 25), (23, .iload_n 1, 0), (24, .ireturn, 0), (25, .iinc 1 1, 1), (28, .goto (-21), 7), (31, .iconst (-1), 1), (32, .ireturn, 0)])
theorem mM_X9_broken_ok : m_okM mM_X9_broken = true := by decide +kernel
def mM_X9_grows : mM := (yX9_grows, cX9_grows, 5, some .boolean, [], 9, [(0, .aload_n 0, 0), (1, .getfield 20, 0), (4, .iload_n 1, 0), (5, .iaload, 0), (6, .bipush 6, 6), (8, .if_icmp .ne 18, 26), (11, .aload_n 0, 0), (12, .getfield 9, 0), (15, .iload_n 2, 0), (16, .iaload, 0), (17, .aload_n 0, 0), (18, .getfield 23, 0), (21, .iload_n 1, 0), (22, .iaload, 0), (23, .if_icmp .eq 5, 28), (26, .iconst 0, 0), (27, .ireturn, 0), (28, .iconst 0, 0), (29, .istore_n 3, 0), (30, .iconst 0, 0), (31, .istore 4, 0), (33, .iload 4, 0), (35, .bipush 60, 60), (37, .if_icmp .ge 54, 91), (40, .iload_n 3, 0), (41, .iload 4, 0), (43, .iload_n 2, 0), (44, .if_icmp .eq 38, 82), (47, .aload_n 0, 0), (48, .getfield 9, 0), (51, .iload 4, 0), (53, .iaload, 0), (54, .aload_n 0, 0), (55, .getfield 29, 0), (58, .iload_n 1, 0), (59, .iaload, 0), (60, .if_icmp .ne 22, 82), (63, .iload_n 2, 0), (64, .iload 4, 0), (66, .invokestatic 213, 0), (69, .aload_n 0, 0), (70, .getfield 35, 0), (73, .iload_n 1, 0), (74, .iaload, 0), (75, .if_icmp .gt 7, 82), (78, .iconst 1, 1), (79, .goto 4, 83), (82, .iconst 0, 0), (83, .iadd, 0), (84, .istore_n 3, 0), (85, .iinc 4 1, 1), (88, .goto (-55), 33), (91, .iload_n 3, 0), (92, .aload_n 0, 0), (93, .getfield 38, 0), (96, .iload_n 1, 0), (97, .iaload, 0), (98, .if_icmp .lt 7, 105), (101, .iconst 1, 1), (102, .goto 4, 106), (105, .iconst 0, 0), (106, .ireturn, 0)])
theorem mM_X9_grows_ok : m_okM mM_X9_grows = true := by decide +kernel
def mM_X9_years : mM := (yX9_years, cX9_years, 5, some .int, [], 9, [(0, .aload_n 0, 0), (1, .iconst 0, 0), (2, .putfield 79, 0), (5, .aload_n 0, 0), (6, .iload_n 1, 0), (7, .iconst 0, 0), (8, .bipush 20, 20), (10, .invokestatic 82, 0), (13, .ifCond .ne 7, 20), (16, .iconst 1, 1), (17, .goto 4, 21), (20, .iconst 0, 0), (21, .iconst 1, 1), (22, .invokevirtual 99, 0), (25, .ifCond .eq 5, 30), (28, .iconst 0, 0), (29, .ireturn, 0), (30, .iconst 0, 0), (31, .istore_n 2, 0), (32, .iload_n 2, 0), (33, .iload_n 1, 0), (34, .if_icmp .ge 123, 157), (37, .aload_n 0, 0), (38, .getfield 244, 0), (41, .sipush 1000, 1000), (44, .if_icmp .ge 113, 157), (47, .aload_n 0, 0), (48, .dup, 0), (49, .getfield 244, 0), (52, .iconst 1, 1), (53, .iadd, 0), (54, .putfield 244, 0), (57, .iconst 0, 0), (58, .istore_n 3, 0), (59, .iload_n 3, 0), (60, .bipush 60, 60), (62, .if_icmp .ge 63, 125), (65, .aload_n 0, 0), (66, .getfield 58, 0), (69, .iload_n 3, 0), (70, .aload_n 0, 0), (71, .getfield 9, 0), (74, .iload_n 3, 0), (75, .iaload, 0), (76, .iastore, 0), (77, .aload_n 0, 0), (78, .getfield 210, 0), (81, .iconst 1, 1), (82, .isub, 0), (83, .istore 4, 0), (85, .iload 4, 0), (87, .ifCond .lt 32, 119), (90, .aload_n 0, 0), (91, .iload 4, 0), (93, .iload_n 3, 0), (94, .invokevirtual 247, 0), (97, .ifCond .eq 16, 113), (100, .aload_n 0, 0), (101, .getfield 58, 0), (104, .iload_n 3, 0), (105, .aload_n 0, 0), (106, .getfield 26, 0), (109, .iload 4, 0), (111, .iaload, 0), (112, .iastore, 0), (113, .iinc 4 (-1), 1), (116, .goto (-31), 85), (119, .iinc 3 1, 1), (122, .goto (-63), 59), (125, .iconst 0, 0), (126, .istore_n 3, 0), (127, .iload_n 3, 0), (128, .bipush 60, 60), (130, .if_icmp .ge 21, 151), (133, .aload_n 0, 0), (134, .getfield 9, 0), (137, .iload_n 3, 0), (138, .aload_n 0, 0), (139, .getfield 58, 0), (142, .iload_n 3, 0), (143, .iaload, 0), (144, .iastore, 0), (145, .iinc 3 1, 1), (148, .goto (-21), 127), (151, .iinc 2 1, 1), (154, .goto (-122), 32), (157, .aload_n 0, 0), (158, .getfield 244, 0), (161, .ireturn, 0)])
theorem mM_X9_years_ok : m_okM mM_X9_years = true := by decide +kernel
def mM_X9_bothAt : mM := (yX9_bothAt, cX9_bothAt, 4, some .int, [], 9, [(0, .iconst 5, 5), (1, .iload_n 0, 0), (2, .imul, 0), (3, .iload_n 1, 0), (4, .iadd, 0), (5, .iconst 5, 5), (6, .imul, 0), (7, .iload_n 2, 0), (8, .iadd, 0), (9, .iconst 5, 5), (10, .imul, 0), (11, .iload_n 3, 0), (12, .iadd, 0), (13, .ireturn, 0)])
theorem mM_X9_bothAt_ok : m_okM mM_X9_bothAt = true := by decide +kernel
def mM_X9_weighs : mM := (yX9_weighs, cX9_weighs, 8, none, [], 9, [(0, .iconst 0, 0), (1, .istore_n 1, 0), (2, .iconst 0, 0), (3, .istore_n 2, 0), (4, .iload_n 2, 0), (5, .bipush 60, 60), (7, .if_icmp .ge 31, 38), (10, .aload_n 0, 0), (11, .getfield 16, 0), (14, .iload_n 2, 0), (15, .baload, 0), (16, .ifCond .ne 6, 22), (19, .goto 13, 32), (22, .aload_n 0, 0), (23, .getfield 61, 0), (26, .iload_n 1, 0), (27, .iload_n 2, 0), (28, .iastore, 0), (29, .iinc 1 1, 1), (32, .iinc 2 1, 1), (35, .goto (-31), 4), (38, .iconst 0, 0), (39, .istore_n 2, 0), (40, .iload_n 2, 0), (41, .iload_n 1, 0), (42, .if_icmp .ge 220, 262), (45, .iconst 1, 1), (46, .istore_n 3, 0), (47, .iload_n 3, 0), (48, .iconst 5, 5), (49, .if_icmp .ge 207, 256), (52, .iconst 0, 0), (53, .istore 4, 0), (55, .iconst 0, 0), (56, .istore 5, 0), (58, .iload 5, 0), (60, .aload_n 0, 0), (61, .getfield 210, 0), (64, .if_icmp .ge 80, 144), (67, .iload 4, 0), (69, .aload_n 0, 0), (70, .iload 5, 0), (72, .aload_n 0, 0), (73, .getfield 61, 0), (76, .iload_n 2, 0), (77, .iaload, 0), (78, .iload_n 3, 0), (79, .invokevirtual 215, 0), (82, .iadd, 0), (83, .istore 4, 0), (85, .iconst 0, 0), (86, .istore 6, 0), (88, .iload 6, 0), (90, .bipush 60, 60), (92, .if_icmp .ge 46, 138), (95, .aload_n 0, 0), (96, .getfield 16, 0), (99, .iload 6, 0), (101, .baload, 0), (102, .ifCond .ne 30, 132), (105, .iload 4, 0), (107, .aload_n 0, 0), (108, .iload 5, 0), (110, .aload_n 0, 0), (111, .getfield 61, 0), (114, .iload_n 2, 0), (115, .iaload, 0), (116, .iload_n 3, 0), (117, .iload 6, 0), (119, .aload_n 0, 0), (120, .getfield 9, 0), (123, .iload 6, 0), (125, .iaload, 0), (126, .invokevirtual 219, 0), (129, .iadd, 0), (130, .istore 4, 0), (132, .iinc 6 1, 1), (135, .goto (-47), 88), (138, .iinc 5 1, 1), (141, .goto (-83), 58), (144, .aload_n 0, 0), (145, .getfield 64, 0), (148, .iconst 5, 5), (149, .iload_n 2, 0), (150, .imul, 0), (151, .iload_n 3, 0), (152, .iadd, 0), (153, .iload 4, 0), (155, .iastore, 0), (156, .iconst 0, 0), (157, .istore 5, 0), (159, .iload 5, 0), (161, .iload_n 2, 0), (162, .if_icmp .ge 88, 250), (165, .iconst 1, 1), (166, .istore 6, 0), (168, .iload 6, 0), (170, .iconst 5, 5), (171, .if_icmp .ge 73, 244), (174, .iconst 0, 0), (175, .istore 4, 0), (177, .iconst 0, 0), (178, .istore 7, 0), (180, .iload 7, 0), (182, .aload_n 0, 0), (183, .getfield 210, 0), (186, .if_icmp .ge 36, 222), (189, .iload 4, 0), (191, .aload_n 0, 0), (192, .iload 7, 0), (194, .aload_n 0, 0), (195, .getfield 61, 0), (198, .iload_n 2, 0), (199, .iaload, 0), (200, .iload_n 3, 0), (201, .aload_n 0, 0), (202, .getfield 61, 0), (205, .iload 5, 0), (207, .iaload, 0), (208, .iload 6, 0), (210, .invokevirtual 219, 0), (213, .iadd, 0), (214, .istore 4, 0), (216, .iinc 7 1, 1), (219, .goto (-39), 180), (222, .aload_n 0, 0), (223, .getfield 67, 0), (226, .iload_n 2, 0), (227, .iload 5, 0), (229, .iload_n 3, 0), (230, .iload 6, 0), (232, .invokestatic 250, 0), (235, .iload 4, 0), (237, .iastore, 0), (238, .iinc 6 1, 1), (241, .goto (-73), 168), (244, .iinc 5 1, 1), (247, .goto (-88), 159), (250, .iinc 3 1, 1), (253, .goto (-206), 47), (256, .iinc 2 1, 1), (259, .goto (-219), 40), (262, .return_, 0)])
theorem mM_X9_weighs_ok : m_okM mM_X9_weighs = true := by decide +kernel
def mM_X9_others : mM := (yX9_others, cX9_others, 5, some .int, [], 9, [(0, .iconst 0, 0), (1, .istore_n 1, 0), (2, .iconst 0, 0), (3, .istore_n 2, 0), (4, .iload_n 2, 0), (5, .aload_n 0, 0), (6, .getfield 210, 0), (9, .if_icmp .ge 99, 108), (12, .iconst 0, 0), (13, .istore_n 3, 0), (14, .iload_n 3, 0), (15, .bipush 60, 60), (17, .if_icmp .ge 85, 102), (20, .aload_n 0, 0), (21, .getfield 16, 0), (24, .iload_n 3, 0), (25, .baload, 0), (26, .ifCond .eq 6, 32), (29, .goto 67, 96), (32, .iload_n 1, 0), (33, .aload_n 0, 0), (34, .iload_n 2, 0), (35, .iload_n 3, 0), (36, .aload_n 0, 0), (37, .getfield 9, 0), (40, .iload_n 3, 0), (41, .iaload, 0), (42, .invokevirtual 215, 0), (45, .iadd, 0), (46, .istore_n 1, 0), (47, .iconst 0, 0), (48, .istore 4, 0), (50, .iload 4, 0), (52, .iload_n 3, 0), (53, .if_icmp .ge 43, 96), (56, .aload_n 0, 0), (57, .getfield 16, 0), (60, .iload 4, 0), (62, .baload, 0), (63, .ifCond .ne 27, 90), (66, .iload_n 1, 0), (67, .aload_n 0, 0), (68, .iload_n 2, 0), (69, .iload_n 3, 0), (70, .aload_n 0, 0), (71, .getfield 9, 0), (74, .iload_n 3, 0), (75, .iaload, 0), (76, .iload 4, 0), (78, .aload_n 0, 0), (79, .getfield 9, 0), (82, .iload 4, 0), (84, .iaload, 0), (85, .invokevirtual 219, 0), (88, .iadd, 0), (89, .istore_n 1, 0), (90, .iinc 4 1, 1), (93, .goto (-43), 50), (96, .iinc 3 1, 1), (99, .goto (-85), 14), (102, .iinc 2 1, 1), (105, .goto (-101), 4), (108, .iload_n 1, 0), (109, .ireturn, 0)])
theorem mM_X9_others_ok : m_okM mM_X9_others = true := by decide +kernel
def mM_X9_allHold : mM := (yX9_allHold, cX9_allHold, 3, some .boolean, [], 9, [(0, .iconst 0, 0), (1, .istore_n 2, 0), (2, .iload_n 2, 0), (3, .aload_n 0, 0), (4, .getfield 210, 0), (7, .if_icmp .ge 24, 31), (10, .iload_n 2, 0), (11, .iload_n 1, 0), (12, .if_icmp .eq 13, 25), (15, .aload_n 0, 0), (16, .iload_n 2, 0), (17, .invokevirtual 241, 0), (20, .ifCond .ne 5, 25), (23, .iconst 0, 0), (24, .ireturn, 0), (25, .iinc 2 1, 1), (28, .goto (-26), 2), (31, .iconst 1, 1), (32, .ireturn, 0)])
theorem mM_X9_allHold_ok : m_okM mM_X9_allHold = true := by decide +kernel
def mM_X9_seeks : mM := (yX9_seeks, cX9_seeks, 8, some .boolean, [], 9, [(0, .aload_n 0, 0), (1, .invokevirtual 254, 0), (4, .aload_n 0, 0), (5, .invokevirtual 257, 0), (8, .istore_n 2, 0), (9, .iconst 0, 0), (10, .istore_n 3, 0), (11, .iload_n 3, 0), (12, .aload_n 0, 0), (13, .getfield 106, 0), (16, .if_icmp .ge 38, 54), (19, .aload_n 0, 0), (20, .getfield 70, 0), (23, .iload_n 3, 0), (24, .aload_n 0, 0), (25, .getfield 9, 0), (28, .aload_n 0, 0), (29, .getfield 61, 0), (32, .iload_n 3, 0), (33, .iaload, 0), (34, .iaload, 0), (35, .iastore, 0), (36, .aload_n 0, 0), (37, .getfield 9, 0), (40, .aload_n 0, 0), (41, .getfield 61, 0), (44, .iload_n 3, 0), (45, .iaload, 0), (46, .iconst 1, 1), (47, .iastore, 0), (48, .iinc 3 1, 1), (51, .goto (-40), 11), (54, .iconst 0, 0), (55, .istore_n 3, 0), (56, .iconst 1, 1), (57, .istore 4, 0), (59, .iload 4, 0), (61, .ifCond .eq 258, 319), (64, .iload_n 2, 0), (65, .istore 5, 0), (67, .iconst 0, 0), (68, .istore 6, 0), (70, .iload 6, 0), (72, .aload_n 0, 0), (73, .getfield 106, 0), (76, .if_icmp .ge 93, 169), (79, .iload 5, 0), (81, .aload_n 0, 0), (82, .getfield 64, 0), (85, .iconst 5, 5), (86, .iload 6, 0), (88, .imul, 0), (89, .aload_n 0, 0), (90, .getfield 9, 0), (93, .aload_n 0, 0), (94, .getfield 61, 0), (97, .iload 6, 0), (99, .iaload, 0), (100, .iaload, 0), (101, .iadd, 0), (102, .iaload, 0), (103, .iadd, 0), (104, .istore 5, 0), (106, .iconst 0, 0), (107, .istore 7, 0), (109, .iload 7, 0), (111, .iload 6, 0), (113, .if_icmp .ge 50, 163), (116, .iload 5, 0), (118, .aload_n 0, 0), (119, .getfield 67, 0), (122, .iload 6, 0), (124, .iload 7, 0), (126, .aload_n 0, 0), (127, .getfield 9, 0), (130, .aload_n 0, 0), (131, .getfield 61, 0), (134, .iload 6, 0), (136, .iaload, 0), (137, .iaload, 0), (138, .aload_n 0, 0), (139, .getfield 9, 0), (142, .aload_n 0, 0), (143, .getfield 61, 0), (146, .iload 7, 0), (148, .iaload, 0), (149, .iaload, 0), (150, .invokestatic 250, 0), (153, .iaload, 0), (154, .iadd, 0), (155, .istore 5, 0), (157, .iinc 7 1, 1), (160, .goto (-51), 109), (163, .iinc 6 1, 1), (166, .goto (-96), 70), (169, .iload_n 3, 0), (170, .ifCond .eq 12, 182), (173, .iload 5, 0), (175, .aload_n 0, 0), (176, .getfield 260, 0), (179, .if_icmp .le 56, 235), (182, .aload_n 0, 0), (183, .iload_n 1, 0), (184, .invokevirtual 263, 0), (187, .ifCond .eq 48, 235), (190, .iconst 1, 1), (191, .istore_n 3, 0), (192, .aload_n 0, 0), (193, .iload 5, 0), (195, .putfield 260, 0), (198, .iconst 0, 0), (199, .istore 6, 0), (201, .iload 6, 0), (203, .aload_n 0, 0), (204, .getfield 106, 0), (207, .if_icmp .ge 28, 235), (210, .aload_n 0, 0), (211, .getfield 73, 0), (214, .iload 6, 0), (216, .aload_n 0, 0), (217, .getfield 9, 0), (220, .aload_n 0, 0), (221, .getfield 61, 0), (224, .iload 6, 0), (226, .iaload, 0), (227, .iaload, 0), (228, .iastore, 0), (229, .iinc 6 1, 1), (232, .goto (-31), 201), (235, .aload_n 0, 0), (236, .getfield 106, 0), (239, .iconst 1, 1), (240, .isub, 0), (241, .istore 6, 0), (243, .iload 6, 0), (245, .ifCond .lt 38, 283), (248, .aload_n 0, 0), (249, .getfield 9, 0), (252, .aload_n 0, 0), (253, .getfield 61, 0), (256, .iload 6, 0), (258, .iaload, 0), (259, .iaload, 0), (260, .iconst 4, 4), (261, .if_icmp .ne 22, 283), (264, .aload_n 0, 0), (265, .getfield 9, 0), (268, .aload_n 0, 0), (269, .getfield 61, 0), (272, .iload 6, 0), (274, .iaload, 0), (275, .iconst 1, 1), (276, .iastore, 0), (277, .iinc 6 (-1), 1), (280, .goto (-37), 243), (283, .iload 6, 0), (285, .ifCond .lt 7, 292), (288, .iconst 1, 1), (289, .goto 4, 293), (292, .iconst 0, 0), (293, .istore 4, 0), (295, .iload 4, 0), (297, .ifCond .eq 19, 316), (300, .aload_n 0, 0), (301, .getfield 9, 0), (304, .aload_n 0, 0), (305, .getfield 61, 0), (308, .iload 6, 0), (310, .iaload, 0), (311, .dup2, 0), (312, .iaload, 0), (313, .iconst 1, 1), (314, .iadd, 0), (315, .iastore, 0), (316, .goto (-257), 59), (319, .iconst 0, 0), (320, .istore 5, 0), (322, .iload 5, 0), (324, .aload_n 0, 0), (325, .getfield 106, 0), (328, .if_icmp .ge 28, 356), (331, .aload_n 0, 0), (332, .getfield 9, 0), (335, .aload_n 0, 0), (336, .getfield 61, 0), (339, .iload 5, 0), (341, .iaload, 0), (342, .aload_n 0, 0), (343, .getfield 70, 0), (346, .iload 5, 0), (348, .iaload, 0), (349, .iastore, 0), (350, .iinc 5 1, 1), (353, .goto (-31), 322), (356, .iload_n 3, 0), (357, .ireturn, 0)])
theorem mM_X9_seeks_ok : m_okM mM_X9_seeks = true := by decide +kernel
def mM_X9_can : mM := (yX9_can, cX9_can, 1, some .boolean, [], 9, [(0, .aload_n 0, 0), (1, .iconst 0, 0), (2, .putfield 79, 0), (5, .aload_n 0, 0), (6, .iconst (-1), 1), (7, .invokevirtual 266, 0), (10, .ireturn, 0)])
theorem mM_X9_can_ok : m_okM mM_X9_can = true := by decide +kernel
def mM_X9_best : mM := (yX9_best, cX9_best, 1, some .int, [], 9, [(0, .aload_n 0, 0), (1, .iconst 0, 0), (2, .putfield 79, 0), (5, .aload_n 0, 0), (6, .aload_n 0, 0), (7, .iconst (-1), 1), (8, .invokevirtual 266, 0), (11, .ifCond .ne 7, 18), (14, .iconst 1, 1), (15, .goto 4, 19), (18, .iconst 0, 0), (19, .iconst 1, 1), (20, .invokevirtual 99, 0), (23, .ifCond .eq 7, 30), (26, .iconst 0, 0), (27, .goto 7, 34), (30, .aload_n 0, 0), (31, .getfield 260, 0), (34, .ireturn, 0)])
theorem mM_X9_best_ok : m_okM mM_X9_best = true := by decide +kernel
def mM_X9_given : mM := (yX9_given, cX9_given, 4, some .int, [], 9, [(0, .aload_n 0, 0), (1, .iconst 0, 0), (2, .putfield 79, 0), (5, .aload_n 0, 0), (6, .iload_n 1, 0), (7, .invokestatic 95, 0), (10, .iconst 1, 1), (11, .invokevirtual 99, 0), (14, .ifCond .eq 5, 19), (17, .iconst 0, 0), (18, .ireturn, 0), (19, .aload_n 0, 0), (20, .iconst (-1), 1), (21, .invokevirtual 266, 0), (24, .ifCond .ne 5, 29), (27, .iconst (-1), 1), (28, .ireturn, 0), (29, .aload_n 0, 0), (30, .getfield 9, 0), (33, .iload_n 1, 0), (34, .iaload, 0), (35, .istore_n 2, 0), (36, .iconst 0, 0), (37, .istore_n 3, 0), (38, .iload_n 3, 0), (39, .aload_n 0, 0), (40, .getfield 106, 0), (43, .if_icmp .ge 26, 69), (46, .aload_n 0, 0), (47, .getfield 61, 0), (50, .iload_n 3, 0), (51, .iaload, 0), (52, .iload_n 1, 0), (53, .if_icmp .ne 10, 63), (56, .aload_n 0, 0), (57, .getfield 73, 0), (60, .iload_n 3, 0), (61, .iaload, 0), (62, .istore_n 2, 0), (63, .iinc 3 1, 1), (66, .goto (-28), 38), (69, .iload_n 2, 0), (70, .ireturn, 0)])
theorem mM_X9_given_ok : m_okM mM_X9_given = true := by decide +kernel
def mM_X9_take : mM := (yX9_take, cX9_take, 2, some .boolean, [], 9, [(0, .aload_n 0, 0), (1, .iconst 0, 0), (2, .putfield 79, 0), (5, .aload_n 0, 0), (6, .iconst (-1), 1), (7, .invokevirtual 266, 0), (10, .ifCond .ne 5, 15), (13, .iconst 0, 0), (14, .ireturn, 0), (15, .iconst 0, 0), (16, .istore_n 1, 0), (17, .iload_n 1, 0), (18, .aload_n 0, 0), (19, .getfield 106, 0), (22, .if_icmp .ge 26, 48), (25, .aload_n 0, 0), (26, .getfield 9, 0), (29, .aload_n 0, 0), (30, .getfield 61, 0), (33, .iload_n 1, 0), (34, .iaload, 0), (35, .aload_n 0, 0), (36, .getfield 73, 0), (39, .iload_n 1, 0), (40, .iaload, 0), (41, .iastore, 0), (42, .iinc 1 1, 1), (45, .goto (-28), 17), (48, .iconst 1, 1), (49, .ireturn, 0)])
theorem mM_X9_take_ok : m_okM mM_X9_take = true := by decide +kernel
def mM_X9_cost : mM := (yX9_cost, cX9_cost, 4, some .int, [], 9, [(0, .aload_n 0, 0), (1, .iconst 0, 0), (2, .putfield 79, 0), (5, .aload_n 0, 0), (6, .iload_n 1, 0), (7, .iconst 0, 0), (8, .aload_n 0, 0), (9, .getfield 210, 0), (12, .iconst 1, 1), (13, .isub, 0), (14, .invokestatic 82, 0), (17, .ifCond .ne 7, 24), (20, .iconst 1, 1), (21, .goto 4, 25), (24, .iconst 0, 0), (25, .iconst 1, 1), (26, .invokevirtual 99, 0), (29, .ifCond .ne 32, 61), (32, .aload_n 0, 0), (33, .aload_n 0, 0), (34, .iload_n 1, 0), (35, .invokevirtual 269, 0), (38, .ifCond .eq 11, 49), (41, .aload_n 0, 0), (42, .iconst (-1), 1), (43, .invokevirtual 266, 0), (46, .ifCond .ne 7, 53), (49, .iconst 1, 1), (50, .goto 4, 54), (53, .iconst 0, 0), (54, .iconst 2, 2), (55, .invokevirtual 99, 0), (58, .ifCond .eq 5, 63), (61, .iconst 0, 0), (62, .ireturn, 0), (63, .aload_n 0, 0), (64, .getfield 260, 0), (67, .istore_n 2, 0), (68, .aload_n 0, 0), (69, .iload_n 1, 0), (70, .invokevirtual 266, 0), (73, .istore_n 3, 0), (74, .aload_n 0, 0), (75, .getfield 260, 0), (78, .iload_n 2, 0), (79, .isub, 0), (80, .ireturn, 0)])
theorem mM_X9_cost_ok : m_okM mM_X9_cost = true := by decide +kernel
def mM_X9_look : mM := (yX9_look, cX9_look, 5, some .int, [], 9, [(0, .aload_n 0, 0), (1, .iconst 0, 0), (2, .putfield 79, 0), (5, .aload_n 0, 0), (6, .iload_n 1, 0), (7, .invokestatic 95, 0), (10, .iconst 1, 1), (11, .invokevirtual 99, 0), (14, .ifCond .eq 5, 19), (17, .iconst 0, 0), (18, .ireturn, 0), (19, .iload_n 2, 0), (20, .tableswitch 117 0 3 #[32, 39, 46, 61], 0), (52, .aload_n 0, 0), (53, .getfield 9, 0), (56, .iload_n 1, 0), (57, .iaload, 0), (58, .ireturn, 0), (59, .aload_n 0, 0), (60, .getfield 13, 0), (63, .iload_n 1, 0), (64, .iaload, 0), (65, .ireturn, 0), (66, .aload_n 0, 0), (67, .getfield 16, 0), (70, .iload_n 1, 0), (71, .baload, 0), (72, .ifCond .eq 7, 79), (75, .iconst 1, 1), (76, .goto 4, 80), (79, .iconst 0, 0), (80, .ireturn, 0), (81, .iconst 0, 0), (82, .istore_n 3, 0), (83, .iconst 0, 0), (84, .istore 4, 0), (86, .iload 4, 0), (88, .iconst 4, 4), (89, .if_icmp .ge 46, 135), (92, .iload_n 3, 0), (93, .iload_n 1, 0), (94, .iload 4, 0), (96, .invokestatic 229, 0), (99, .ifCond .lt 27, 126), (102, .aload_n 0, 0), (103, .getfield 9, 0), (106, .iload_n 1, 0), (107, .iload 4, 0), (109, .invokestatic 229, 0), (112, .iaload, 0), (113, .aload_n 0, 0), (114, .getfield 9, 0), (117, .iload_n 1, 0), (118, .iaload, 0), (119, .if_icmp .ne 7, 126), (122, .iconst 1, 1), (123, .goto 4, 127), (126, .iconst 0, 0), (127, .iadd, 0), (128, .istore_n 3, 0), (129, .iinc 4 1, 1), (132, .goto (-46), 86), (135, .iload_n 3, 0), (136, .ireturn, 0), (137, .aload_n 0, 0), (138, .iconst 2, 2), (139, .putfield 79, 0), (142, .iconst 0, 0), (143, .ireturn, 0)])
theorem mM_X9_look_ok : m_okM mM_X9_look = true := by decide +kernel
def mM_X9_keep : mM := (yX9_keep, cX9_keep, 2, some .int, [], 9, [(0, .aload_n 0, 0), (1, .iconst 0, 0), (2, .putfield 79, 0), (5, .aload_n 0, 0), (6, .getfield 272, 0), (9, .bipush 6, 6), (11, .if_icmp .ne 5, 16), (14, .iconst (-1), 1), (15, .ireturn, 0), (16, .iconst 0, 0), (17, .istore_n 1, 0), (18, .iload_n 1, 0), (19, .bipush 60, 60), (21, .if_icmp .ge 29, 50), (24, .aload_n 0, 0), (25, .getfield 41, 0), (28, .bipush 60, 60), (30, .aload_n 0, 0), (31, .getfield 272, 0), (34, .imul, 0), (35, .iload_n 1, 0), (36, .iadd, 0), (37, .aload_n 0, 0), (38, .getfield 9, 0), (41, .iload_n 1, 0), (42, .iaload, 0), (43, .iastore, 0), (44, .iinc 1 1, 1), (47, .goto (-29), 18), (50, .aload_n 0, 0), (51, .dup, 0), (52, .getfield 272, 0), (55, .iconst 1, 1), (56, .iadd, 0), (57, .putfield 272, 0), (60, .aload_n 0, 0), (61, .getfield 272, 0), (64, .iconst 1, 1), (65, .isub, 0), (66, .ireturn, 0)])
theorem mM_X9_keep_ok : m_okM mM_X9_keep = true := by decide +kernel
def mM_X9_useIn : mM := (yX9_useIn, cX9_useIn, 3, some .int, [], 9, [(0, .iload_n 1, 0), (1, .ifCond .ge 12, 13), (4, .aload_n 0, 0), (5, .getfield 9, 0), (8, .iload_n 2, 0), (9, .iaload, 0), (10, .goto 14, 24), (13, .aload_n 0, 0), (14, .getfield 41, 0), (17, .bipush 60, 60), (19, .iload_n 1, 0), (20, .imul, 0), (21, .iload_n 2, 0), (22, .iadd, 0), (23, .iaload, 0), (24, .ireturn, 0)])
theorem mM_X9_useIn_ok : m_okM mM_X9_useIn = true := by decide +kernel
def mM_X9_unlike : mM := (yX9_unlike, cX9_unlike, 5, some .int, [], 9, [(0, .aload_n 0, 0), (1, .iconst 0, 0), (2, .putfield 79, 0), (5, .aload_n 0, 0), (6, .iload_n 1, 0), (7, .iconst (-1), 1), (8, .aload_n 0, 0), (9, .getfield 272, 0), (12, .iconst 1, 1), (13, .isub, 0), (14, .invokestatic 82, 0), (17, .ifCond .eq 17, 34), (20, .iload_n 2, 0), (21, .iconst (-1), 1), (22, .aload_n 0, 0), (23, .getfield 272, 0), (26, .iconst 1, 1), (27, .isub, 0), (28, .invokestatic 82, 0), (31, .ifCond .ne 7, 38), (34, .iconst 1, 1), (35, .goto 4, 39), (38, .iconst 0, 0), (39, .iconst 1, 1), (40, .invokevirtual 99, 0), (43, .ifCond .eq 5, 48), (46, .iconst 0, 0), (47, .ireturn, 0), (48, .iconst 0, 0), (49, .istore_n 3, 0), (50, .iconst 0, 0), (51, .istore 4, 0), (53, .iload 4, 0), (55, .bipush 60, 60), (57, .if_icmp .ge 34, 91), (60, .iload_n 3, 0), (61, .aload_n 0, 0), (62, .iload_n 1, 0), (63, .iload 4, 0), (65, .invokevirtual 275, 0), (68, .aload_n 0, 0), (69, .iload_n 2, 0), (70, .iload 4, 0), (72, .invokevirtual 275, 0), (75, .if_icmp .eq 7, 82), (78, .iconst 1, 1), (79, .goto 4, 83), (82, .iconst 0, 0), (83, .iadd, 0), (84, .istore_n 3, 0), (85, .iinc 4 1, 1), (88, .goto (-35), 53), (91, .iload_n 3, 0), (92, .ireturn, 0)])
theorem mM_X9_unlike_ok : m_okM mM_X9_unlike = true := by decide +kernel
def mM_X9_back : mM := (yX9_back, cX9_back, 4, some .int, [], 9, [(0, .aload_n 0, 0), (1, .iconst 0, 0), (2, .putfield 79, 0), (5, .aload_n 0, 0), (6, .iload_n 1, 0), (7, .iconst 0, 0), (8, .aload_n 0, 0), (9, .getfield 272, 0), (12, .iconst 1, 1), (13, .isub, 0), (14, .invokestatic 82, 0), (17, .ifCond .ne 7, 24), (20, .iconst 1, 1), (21, .goto 4, 25), (24, .iconst 0, 0), (25, .iconst 1, 1), (26, .invokevirtual 99, 0), (29, .ifCond .eq 5, 34), (32, .iconst 0, 0), (33, .ireturn, 0), (34, .iconst 0, 0), (35, .istore_n 2, 0), (36, .iconst 0, 0), (37, .istore_n 3, 0), (38, .iload_n 3, 0), (39, .bipush 60, 60), (41, .if_icmp .ge 54, 95), (44, .iload_n 2, 0), (45, .aload_n 0, 0), (46, .getfield 9, 0), (49, .iload_n 3, 0), (50, .iaload, 0), (51, .aload_n 0, 0), (52, .getfield 41, 0), (55, .bipush 60, 60), (57, .iload_n 1, 0), (58, .imul, 0), (59, .iload_n 3, 0), (60, .iadd, 0), (61, .iaload, 0), (62, .if_icmp .eq 7, 69), (65, .iconst 1, 1), (66, .goto 4, 70), (69, .iconst 0, 0), (70, .iadd, 0), (71, .istore_n 2, 0), (72, .aload_n 0, 0), (73, .getfield 9, 0), (76, .iload_n 3, 0), (77, .aload_n 0, 0), (78, .getfield 41, 0), (81, .bipush 60, 60), (83, .iload_n 1, 0), (84, .imul, 0), (85, .iload_n 3, 0), (86, .iadd, 0), (87, .iaload, 0), (88, .iastore, 0), (89, .iinc 3 1, 1), (92, .goto (-54), 38), (95, .iload_n 2, 0), (96, .ireturn, 0)])
theorem mM_X9_back_ok : m_okM mM_X9_back = true := by decide +kernel
def mM_X9_far : mM := (yX9_far, cX9_far, 5, some .int, [], 9, [(0, .aload_n 0, 0), (1, .iconst 0, 0), (2, .putfield 79, 0), (5, .iconst 0, 0), (6, .istore_n 1, 0), (7, .iload_n 1, 0), (8, .bipush 60, 60), (10, .if_icmp .ge 30, 40), (13, .aload_n 0, 0), (14, .getfield 76, 0), (17, .iload_n 1, 0), (18, .iload_n 1, 0), (19, .aload_n 0, 0), (20, .getfield 109, 0), (23, .if_icmp .ne 7, 30), (26, .iconst 0, 0), (27, .goto 6, 33), (30, .sipush 1000, 1000), (33, .iastore, 0), (34, .iinc 1 1, 1), (37, .goto (-30), 7), (40, .iconst 1, 1), (41, .istore_n 1, 0), (42, .iload_n 1, 0), (43, .bipush 60, 60), (45, .if_icmp .gt 95, 140), (48, .iconst 0, 0), (49, .istore_n 2, 0), (50, .iload_n 2, 0), (51, .bipush 60, 60), (53, .if_icmp .ge 81, 134), (56, .aload_n 0, 0), (57, .getfield 76, 0), (60, .iload_n 2, 0), (61, .iaload, 0), (62, .iload_n 1, 0), (63, .iconst 1, 1), (64, .isub, 0), (65, .if_icmp .eq 6, 71), (68, .goto 60, 128), (71, .iconst 0, 0), (72, .istore_n 3, 0), (73, .iload_n 3, 0), (74, .iconst 4, 4), (75, .if_icmp .ge 53, 128), (78, .iload_n 2, 0), (79, .iload_n 3, 0), (80, .invokestatic 229, 0), (83, .istore 4, 0), (85, .iload 4, 0), (87, .ifCond .lt 35, 122), (90, .aload_n 0, 0), (91, .getfield 76, 0), (94, .iload 4, 0), (96, .iaload, 0), (97, .sipush 1000, 1000), (100, .if_icmp .ne 22, 122), (103, .aload_n 0, 0), (104, .getfield 9, 0), (107, .iload 4, 0), (109, .iaload, 0), (110, .iconst 4, 4), (111, .if_icmp .eq 11, 122), (114, .aload_n 0, 0), (115, .getfield 76, 0), (118, .iload 4, 0), (120, .iload_n 1, 0), (121, .iastore, 0), (122, .iinc 3 1, 1), (125, .goto (-52), 73), (128, .iinc 2 1, 1), (131, .goto (-81), 50), (134, .iinc 1 1, 1), (137, .goto (-95), 42), (140, .iconst 0, 0), (141, .istore_n 1, 0), (142, .iconst 0, 0), (143, .istore_n 2, 0), (144, .iload_n 2, 0), (145, .bipush 60, 60), (147, .if_icmp .ge 30, 177), (150, .aload_n 0, 0), (151, .getfield 9, 0), (154, .iload_n 2, 0), (155, .iaload, 0), (156, .iconst 1, 1), (157, .if_icmp .ne 14, 171), (160, .iload_n 1, 0), (161, .aload_n 0, 0), (162, .getfield 76, 0), (165, .iload_n 2, 0), (166, .iaload, 0), (167, .invokestatic 92, 0), (170, .istore_n 1, 0), (171, .iinc 2 1, 1), (174, .goto (-30), 144), (177, .iload_n 1, 0), (178, .sipush 1000, 1000), (181, .if_icmp .ne 7, 188), (184, .iconst (-1), 1), (185, .goto 4, 189), (188, .iload_n 1, 0), (189, .ireturn, 0)])
theorem mM_X9_far_ok : m_okM mM_X9_far = true := by decide +kernel
def mM_X9_count : mM := (yX9_count, cX9_count, 4, some .int, [], 9, [(0, .aload_n 0, 0), (1, .iconst 0, 0), (2, .putfield 79, 0), (5, .iconst 0, 0), (6, .istore_n 2, 0), (7, .iload_n 1, 0), (8, .tableswitch 116 0 9 #[56, 56, 56, 56, 56, 62, 67, 72, 106, 111], 0), (64, .aload_n 0, 0), (65, .iload_n 1, 0), (66, .invokevirtual 235, 0), (69, .ireturn, 0), (70, .aload_n 0, 0), (71, .getfield 106, 0), (74, .ireturn, 0), (75, .aload_n 0, 0), (76, .getfield 210, 0), (79, .ireturn, 0), (80, .iconst 0, 0), (81, .istore_n 3, 0), (82, .iload_n 3, 0), (83, .aload_n 0, 0), (84, .getfield 210, 0), (87, .if_icmp .ge 25, 112), (90, .iload_n 2, 0), (91, .aload_n 0, 0), (92, .iload_n 3, 0), (93, .invokevirtual 269, 0), (96, .ifCond .eq 7, 103), (99, .iconst 1, 1), (100, .goto 4, 104), (103, .iconst 0, 0), (104, .iadd, 0), (105, .istore_n 2, 0), (106, .iinc 3 1, 1), (109, .goto (-27), 82), (112, .iload_n 2, 0), (113, .ireturn, 0), (114, .aload_n 0, 0), (115, .getfield 272, 0), (118, .ireturn, 0), (119, .aload_n 0, 0), (120, .getfield 244, 0), (123, .ireturn, 0), (124, .iconst (-1), 1), (125, .ireturn, 0)])
theorem mM_X9_count_ok : m_okM mM_X9_count = true := by decide +kernel
def mM_J6_bitCount_0f7a4 : mM := (yJ6_bitCount_0f7a4, cJ6_bitCount_0f7a4, 1, some .int, [], 10, [(0, .iload_n 0, 0), (1, .iload_n 0, 0), (2, .iconst 1, 1), (3, .iushr, 0), (4, .ldc_w 265, 0), (7, .iand, 0), (8, .isub, 0), (9, .istore_n 0, 0), (10, .iload_n 0, 0), (11, .ldc_w 266, 0), (14, .iand, 0), (15, .iload_n 0, 0), (16, .iconst 2, 2), (17, .iushr, 0), (18, .ldc_w 266, 0), (21, .iand, 0), (22, .iadd, 0), (23, .istore_n 0, 0), (24, .iload_n 0, 0), (25, .iload_n 0, 0), (26, .iconst 4, 4), (27, .iushr, 0), (28, .iadd, 0), (29, .ldc_w 267, 0), (32, .iand, 0), (33, .istore_n 0, 0), (34, .iload_n 0, 0), (35, .iload_n 0, 0), (36, .bipush 8, 8), (38, .iushr, 0), (39, .iadd, 0), (40, .istore_n 0, 0), (41, .iload_n 0, 0), (42, .iload_n 0, 0), (43, .bipush 16, 16), (45, .iushr, 0), (46, .iadd, 0), (47, .istore_n 0, 0), (48, .iload_n 0, 0), (49, .bipush 63, 63), (51, .iand, 0), (52, .ireturn, 0)])
theorem mM_J6_bitCount_0f7a4_ok : m_okM mM_J6_bitCount_0f7a4 = true := by decide +kernel
def mM_J13_bitCount_95d88 : mM := (yJ13_bitCount_95d88, cJ13_bitCount_95d88, 2, some .int, [], 11, [(0, .lload_n 0, 0), (1, .lload_n 0, 0), (2, .iconst 1, 1), (3, .lushr, 0), (4, .ldc2_w 314, 0), (7, .land, 0), (8, .lsub, 0), (9, .lstore_n 0, 0), (10, .lload_n 0, 0), (11, .ldc2_w 316, 0), (14, .land, 0), (15, .lload_n 0, 0), (16, .iconst 2, 2), (17, .lushr, 0), (18, .ldc2_w 316, 0), (21, .land, 0), (22, .ladd, 0), (23, .lstore_n 0, 0), (24, .lload_n 0, 0), (25, .lload_n 0, 0), (26, .iconst 4, 4), (27, .lushr, 0), (28, .ladd, 0), (29, .ldc2_w 318, 0), (32, .land, 0), (33, .lstore_n 0, 0), (34, .lload_n 0, 0), (35, .lload_n 0, 0), (36, .bipush 8, 8), (38, .lushr, 0), (39, .ladd, 0), (40, .lstore_n 0, 0), (41, .lload_n 0, 0), (42, .lload_n 0, 0), (43, .bipush 16, 16), (45, .lushr, 0), (46, .ladd, 0), (47, .lstore_n 0, 0), (48, .lload_n 0, 0), (49, .lload_n 0, 0), (50, .bipush 32, 32), (52, .lushr, 0), (53, .ladd, 0), (54, .lstore_n 0, 0), (55, .lload_n 0, 0), (56, .l2i, 0), (57, .bipush 127, 127), (59, .iand, 0), (60, .ireturn, 0)])
theorem mM_J13_bitCount_95d88_ok : m_okM mM_J13_bitCount_95d88 = true := by decide +kernel
def mM_J9_abs_0f7a4 : mM := (yJ9_abs_0f7a4, cJ9_abs_0f7a4, 1, some .int, [], 12, [(0, .iload_n 0, 0), (1, .ifCond .ge 8, 9), (4, .iload_n 0, 0), (5, .ineg, 0), (6, .goto 4, 10), (9, .iload_n 0, 0), (10, .ireturn, 0)])
theorem mM_J9_abs_0f7a4_ok : m_okM mM_J9_abs_0f7a4 = true := by decide +kernel
def mM_J9_max_7cf53 : mM := (yJ9_max_7cf53, cJ9_max_7cf53, 2, some .int, [], 12, [(0, .iload_n 0, 0), (1, .iload_n 1, 0), (2, .if_icmp .lt 7, 9), (5, .iload_n 0, 0), (6, .goto 4, 10), (9, .iload_n 1, 0), (10, .ireturn, 0)])
theorem mM_J9_max_7cf53_ok : m_okM mM_J9_max_7cf53 = true := by decide +kernel
def mM_J9_min_7cf53 : mM := (yJ9_min_7cf53, cJ9_min_7cf53, 2, some .int, [], 12, [(0, .iload_n 0, 0), (1, .iload_n 1, 0), (2, .if_icmp .gt 7, 9), (5, .iload_n 0, 0), (6, .goto 4, 10), (9, .iload_n 1, 0), (10, .ireturn, 0)])
theorem mM_J9_min_7cf53_ok : m_okM mM_J9_min_7cf53 = true := by decide +kernel
def mM_J0_length_8abf5 : mM := (yJ0_length_8abf5, cJ0_length_8abf5, 1, some .int, [], 14, [(0, .aload_n 0, 0), (1, .getfield 9, 0), (4, .arraylength, 0), (5, .aload_n 0, 0), (6, .invokevirtual 335, 0), (9, .ishr, 0), (10, .ireturn, 0)])
theorem mM_J0_length_8abf5_ok : m_okM mM_J0_length_8abf5 = true := by decide +kernel
def mM_J0_charAt_5068e : mM := (yJ0_charAt_5068e, cJ0_charAt_5068e, 2, some .char, [], 14, [(0, .aload_n 0, 0), (1, .invokevirtual 492, 0), (4, .ifCond .eq 12, 16), (7, .aload_n 0, 0), (8, .getfield 9, 0), (11, .iload_n 1, 0), (12, .invokestatic 495, 0), (15, .ireturn, 0), (16, .aload_n 0, 0), (17, .getfield 9, 0), (20, .iload_n 1, 0), (21, .invokestatic 498, 0), (24, .ireturn, 0)])
theorem mM_J0_charAt_5068e_ok : m_okM mM_J0_charAt_5068e = true := by decide +kernel
def mM_J0_coder_7d493 : mM := (yJ0_coder_7d493, cJ0_coder_7d493, 1, some .byte, [], 14, [(0, .getstatic 38, 0), (3, .ifCond .eq 10, 13), (6, .aload_n 0, 0), (7, .getfield 15, 0), (10, .goto 4, 14), (13, .iconst 1, 1), (14, .ireturn, 0)])
theorem mM_J0_coder_7d493_ok : m_okM mM_J0_coder_7d493 = true := by decide +kernel
def mM_J0_isLatin1_aae02 : mM := (yJ0_isLatin1_aae02, cJ0_isLatin1_aae02, 1, some .boolean, [], 14, [(0, .getstatic 38, 0), (3, .ifCond .eq 14, 17), (6, .aload_n 0, 0), (7, .getfield 15, 0), (10, .ifCond .ne 7, 17), (13, .iconst 1, 1), (14, .goto 4, 18), (17, .iconst 0, 0), (18, .ireturn, 0)])
theorem mM_J0_isLatin1_aae02_ok : m_okM mM_J0_isLatin1_aae02 = true := by decide +kernel
def mM_J0_checkIndex_df160 : mM := (yJ0_checkIndex_df160, cJ0_checkIndex_df160, 2, none, [], 14, [(0, .iload_n 0, 0), (1, .iload_n 1, 0), (2, .getstatic 1053, 0), (5, .invokestatic 1059, 0), (8, .pop, 0), (9, .return_, 0)])
theorem mM_J0_checkIndex_df160_ok : m_okM mM_J0_checkIndex_df160 = true := by decide +kernel
def mM_J1_charAt_3b067 : mM := (yJ1_charAt_3b067, cJ1_charAt_3b067, 2, some .char, [], 15, [(0, .iload_n 1, 0), (1, .aload_n 0, 0), (2, .arraylength, 0), (3, .invokestatic 9, 0), (6, .aload_n 0, 0), (7, .iload_n 1, 0), (8, .baload, 0), (9, .sipush 255, 255), (12, .iand, 0), (13, .i2c, 0), (14, .ireturn, 0)])
theorem mM_J1_charAt_3b067_ok : m_okM mM_J1_charAt_3b067 = true := by decide +kernel
def mM_J3_checkIndex_8e157 : mM := (yJ3_checkIndex_8e157, cJ3_checkIndex_8e157, 3, some .int, [], 16, [(0, .iload_n 0, 0), (1, .ifCond .lt 8, 9), (4, .iload_n 0, 0), (5, .iload_n 1, 0), (6, .if_icmp .lt 10, 16), (9, .aload_n 2, 0), (10, .iload_n 0, 0), (11, .iload_n 1, 0), (12, .invokestatic 95, 0), (15, .athrow, 0), (16, .iload_n 0, 0), (17, .ireturn, 0)])
theorem mM_J3_checkIndex_8e157_ok : m_okM mM_J3_checkIndex_8e157 = true := by decide +kernel
def mM_L_use : mM := (yL_use, cL_use, 6, some .int, [(0, 12, 15, 13), (0, 12, 19, 15)], 13, [(0, .aload 4, 0), (2, .iconst 0, 0), (3, .aload_n 0, 0), (4, .iload_n 1, 0), (5, .iload_n 2, 0), (6, .iload_n 3, 0), (7, .invokevirtual 7, 0), (10, .i2l, 0), (11, .lastore, 0), (12, .goto 11, 23), (15, .astore 5, 0), (17, .iconst 1, 1), (18, .ireturn, 0), (19, .astore 5, 0), (21, .iconst 2, 2), (22, .ireturn, 0), (23, .iconst 0, 0), (24, .ireturn, 0)])
theorem mM_L_use_ok : m_okM mM_L_use = true := by decide +kernel
def mM_L_soil : mM := (yL_soil, cL_soil, 5, some .int, [(0, 7, 10, 13), (0, 7, 14, 15)], 13, [(0, .aload_n 0, 0), (1, .iload_n 1, 0), (2, .iload_n 2, 0), (3, .iload_n 3, 0), (4, .invokevirtual 17, 0), (7, .goto 11, 18), (10, .astore 4, 0), (12, .iconst 1, 1), (13, .ireturn, 0), (14, .astore 4, 0), (16, .iconst 2, 2), (17, .ireturn, 0), (18, .iconst 0, 0), (19, .ireturn, 0)])
theorem mM_L_soil_ok : m_okM mM_L_soil = true := by decide +kernel
def mM_L_free : mM := (yL_free, cL_free, 5, some .int, [(0, 17, 20, 13)], 13, [(0, .aload_n 3, 0), (1, .iconst 0, 0), (2, .aload_n 0, 0), (3, .iload_n 1, 0), (4, .iload_n 2, 0), (5, .invokevirtual 21, 0), (8, .ifCond .eq 7, 15), (11, .lconst 1, 0), (12, .goto 4, 16), (15, .lconst 0, 0), (16, .lastore, 0), (17, .goto 7, 24), (20, .astore 4, 0), (22, .iconst 1, 1), (23, .ireturn, 0), (24, .iconst 0, 0), (25, .ireturn, 0)])
theorem mM_L_free_ok : m_okM mM_L_free = true := by decide +kernel
def mM_L_gate : mM := (yL_gate, cL_gate, 3, some .int, [(0, 5, 8, 13)], 13, [(0, .aload_n 0, 0), (1, .iload_n 1, 0), (2, .invokevirtual 25, 0), (5, .goto 6, 11), (8, .astore_n 2, 0), (9, .iconst 1, 1), (10, .ireturn, 0), (11, .iconst 0, 0), (12, .ireturn, 0)])
theorem mM_L_gate_ok : m_okM mM_L_gate = true := by decide +kernel
def mM_L_book : mM := (yL_book, cL_book, 3, some .int, [(0, 8, 11, 15)], 13, [(0, .aload_n 1, 0), (1, .iconst 0, 0), (2, .aload_n 0, 0), (3, .invokevirtual 29, 0), (6, .i2l, 0), (7, .lastore, 0), (8, .goto 6, 14), (11, .astore_n 2, 0), (12, .iconst 1, 1), (13, .ireturn, 0), (14, .iconst 0, 0), (15, .ireturn, 0)])
theorem mM_L_book_ok : m_okM mM_L_book = true := by decide +kernel
def mM_L_adds : mM := (yL_adds, cL_adds, 4, some .int, [(0, 9, 12, 13)], 13, [(0, .aload_n 2, 0), (1, .iconst 0, 0), (2, .aload_n 0, 0), (3, .iload_n 1, 0), (4, .invokevirtual 33, 0), (7, .i2l, 0), (8, .lastore, 0), (9, .goto 6, 15), (12, .astore_n 3, 0), (13, .iconst 1, 1), (14, .ireturn, 0), (15, .iconst 0, 0), (16, .ireturn, 0)])
theorem mM_L_adds_ok : m_okM mM_L_adds = true := by decide +kernel
def mM_L_years : mM := (yL_years, cL_years, 4, some .int, [(0, 9, 12, 15)], 13, [(0, .aload_n 2, 0), (1, .iconst 0, 0), (2, .aload_n 0, 0), (3, .iload_n 1, 0), (4, .invokevirtual 37, 0), (7, .i2l, 0), (8, .lastore, 0), (9, .goto 6, 15), (12, .astore_n 3, 0), (13, .iconst 1, 1), (14, .ireturn, 0), (15, .iconst 0, 0), (16, .ireturn, 0)])
theorem mM_L_years_ok : m_okM mM_L_years = true := by decide +kernel
def mM_L_best : mM := (yL_best, cL_best, 3, some .int, [(0, 8, 11, 43)], 13, [(0, .aload_n 1, 0), (1, .iconst 0, 0), (2, .aload_n 0, 0), (3, .invokevirtual 40, 0), (6, .i2l, 0), (7, .lastore, 0), (8, .goto 6, 14), (11, .astore_n 2, 0), (12, .iconst 1, 1), (13, .ireturn, 0), (14, .iconst 0, 0), (15, .ireturn, 0)])
theorem mM_L_best_ok : m_okM mM_L_best = true := by decide +kernel
def mM_L_given : mM := (yL_given, cL_given, 4, some .int, [(0, 9, 12, 13)], 13, [(0, .aload_n 2, 0), (1, .iconst 0, 0), (2, .aload_n 0, 0), (3, .iload_n 1, 0), (4, .invokevirtual 45, 0), (7, .i2l, 0), (8, .lastore, 0), (9, .goto 6, 15), (12, .astore_n 3, 0), (13, .iconst 1, 1), (14, .ireturn, 0), (15, .iconst 0, 0), (16, .ireturn, 0)])
theorem mM_L_given_ok : m_okM mM_L_given = true := by decide +kernel
def mM_L_cost : mM := (yL_cost, cL_cost, 4, some .int, [(0, 9, 12, 13), (0, 9, 15, 43)], 13, [(0, .aload_n 2, 0), (1, .iconst 0, 0), (2, .aload_n 0, 0), (3, .iload_n 1, 0), (4, .invokevirtual 48, 0), (7, .i2l, 0), (8, .lastore, 0), (9, .goto 9, 18), (12, .astore_n 3, 0), (13, .iconst 1, 1), (14, .ireturn, 0), (15, .astore_n 3, 0), (16, .iconst 2, 2), (17, .ireturn, 0), (18, .iconst 0, 0), (19, .ireturn, 0)])
theorem mM_L_cost_ok : m_okM mM_L_cost = true := by decide +kernel
def mM_L_look : mM := (yL_look, cL_look, 5, some .int, [(0, 10, 13, 13), (0, 10, 17, 43)], 13, [(0, .aload_n 3, 0), (1, .iconst 0, 0), (2, .aload_n 0, 0), (3, .iload_n 1, 0), (4, .iload_n 2, 0), (5, .invokevirtual 51, 0), (8, .i2l, 0), (9, .lastore, 0), (10, .goto 11, 21), (13, .astore 4, 0), (15, .iconst 1, 1), (16, .ireturn, 0), (17, .astore 4, 0), (19, .iconst 2, 2), (20, .ireturn, 0), (21, .iconst 0, 0), (22, .ireturn, 0)])
theorem mM_L_look_ok : m_okM mM_L_look = true := by decide +kernel
def mM_L_unlike : mM := (yL_unlike, cL_unlike, 5, some .int, [(0, 10, 13, 13)], 13, [(0, .aload_n 3, 0), (1, .iconst 0, 0), (2, .aload_n 0, 0), (3, .iload_n 1, 0), (4, .iload_n 2, 0), (5, .invokevirtual 55, 0), (8, .i2l, 0), (9, .lastore, 0), (10, .goto 7, 17), (13, .astore 4, 0), (15, .iconst 1, 1), (16, .ireturn, 0), (17, .iconst 0, 0), (18, .ireturn, 0)])
theorem mM_L_unlike_ok : m_okM mM_L_unlike = true := by decide +kernel
def mM_L_back : mM := (yL_back, cL_back, 4, some .int, [(0, 9, 12, 13)], 13, [(0, .aload_n 2, 0), (1, .iconst 0, 0), (2, .aload_n 0, 0), (3, .iload_n 1, 0), (4, .invokevirtual 58, 0), (7, .i2l, 0), (8, .lastore, 0), (9, .goto 6, 15), (12, .astore_n 3, 0), (13, .iconst 1, 1), (14, .ireturn, 0), (15, .iconst 0, 0), (16, .ireturn, 0)])
theorem mM_L_back_ok : m_okM mM_L_back = true := by decide +kernel
end
section
/-! words of the calls: written by wip/gen_tabs.py -/
theorem kw_L_61 : m_cwI RL 61 mM_X8_init 0 = true := by decide +kernel
theorem kw_X8_3 : m_oi RX8 3 = true := by decide +kernel
theorem kw_X8_11 : m_cwI RX8 11 mM_X6_init 0 = true := by decide +kernel
theorem kw_X6_3 : m_oi RX6 3 = true := by decide +kernel
theorem kw_X8_18 : m_cwI RX8 18 mM_X3_init 1 = true := by decide +kernel
theorem kw_X3_3 : m_oi RX3 3 = true := by decide +kernel
theorem kw_X8_27 : m_cwI RX8 27 mM_X1_init 0 = true := by decide +kernel
theorem kw_X1_3 : m_oi RX1 3 = true := by decide +kernel
theorem kw_X1_11 : m_cwI RX1 11 mM_X7_init 0 = true := by decide +kernel
theorem kw_X7_3 : m_oi RX7 3 = true := by decide +kernel
theorem kw_X1_27 : m_cwS RX1 27 mM_X5_around 2 = true := by decide +kernel
theorem kw_X5_21 : m_cwS RX5 21 mM_J9_max_7cf53 2 = true := by decide +kernel
theorem kw_X5_15 : m_cwS RX5 15 mM_J9_min_7cf53 2 = true := by decide +kernel
theorem kw_X5_24 : m_cwS RX5 24 mM_X5_rectangle 2 = true := by decide +kernel
theorem kw_X5_11 : m_cwS RX5 11 mM_X5_only 1 = true := by decide +kernel
theorem kw_X8_34 : m_cwI RX8 34 mM_X7_init 0 = true := by decide +kernel
theorem kw_X8_45 : m_cwI RX8 45 mM_X0_init 0 = true := by decide +kernel
theorem kw_X0_3 : m_oi RX0 3 = true := by decide +kernel
theorem kw_X0_17 : m_cwN RX0 17 mM_X2_init 0 = true := by decide +kernel
theorem kw_X2_1 : m_oi RX2 1 = true := by decide +kernel
theorem kw_X8_55 : m_cwI RX8 55 mM_X4_init 2 = true := by decide +kernel
theorem kw_X4_3 : m_oi RX4 3 = true := by decide +kernel
theorem kw_X4_11 : m_cwI RX4 11 mM_X1_init_ 1 = true := by decide +kernel
theorem kw_X4_26 : m_cwI RX4 26 mM_X7_init 0 = true := by decide +kernel
theorem kw_L_65 : m_cwV RL 65 mM_X8_feed 5 = true := by decide +kernel
theorem kw_X8_83 : m_cwV RX8 83 mM_X6_hasRoom 0 = true := by decide +kernel
theorem kw_X8_87 : m_cwV RX8 87 mM_X6_append 1 = true := by decide +kernel
theorem kw_L_70 : m_cwV RL 70 mM_X8_end 1 = true := by decide +kernel
theorem kw_L_100 : m_cwV RL 100 mM_X8_fault 0 = true := by decide +kernel
theorem kw_L_104 : m_cwV RL 104 mM_X8_worth 0 = true := by decide +kernel
theorem kw_X8_146 : m_cwV RX8 146 mM_X0_worthOf 1 = true := by decide +kernel
theorem kw_X0_26 : m_cwV RX0 26 mM_X2_worthOf 1 = true := by decide +kernel
theorem kw_X2_25 : m_cwV RX2 25 mM_X1_countPairs 3 = true := by decide +kernel
theorem kw_X1_46 : m_cwV RX1 46 mM_X7_of 1 = true := by decide +kernel
theorem kw_X1_32 : m_cwS RX1 32 mM_X5_has 2 = true := by decide +kernel
theorem kw_X1_50 : m_cwV RX1 50 mM_X1_countAround 3 = true := by decide +kernel
theorem kw_X1_40 : m_cwS RX1 40 mM_J13_bitCount_95d88 1 = true := by decide +kernel
theorem kw_X2_34 : m_cwV RX2 34 mM_X1_countOnSoil 2 = true := by decide +kernel
theorem kw_L_112 : m_cwV RL 112 mM_X8_broken 0 = true := by decide +kernel
theorem kw_X8_160 : m_cwV RX8 160 mM_X0_firstBroken 1 = true := by decide +kernel
theorem kw_X0_34 : m_cwV RX0 34 mM_X2_isBroken 1 = true := by decide +kernel
theorem kw_X2_54 : m_cwV RX2 54 mM_X2_isBrokenByPair 1 = true := by decide +kernel
theorem kw_X2_58 : m_cwV RX2 58 mM_X2_isBrokenByWhole 1 = true := by decide +kernel
theorem kw_X2_73 : m_cwV RX2 73 mM_X7_of 1 = true := by decide +kernel
theorem kw_X2_67 : m_cwS RX2 67 mM_J13_bitCount_95d88 1 = true := by decide +kernel
theorem kw_X2_77 : m_cwS RX2 77 mM_X5_isJoined 1 = true := by decide +kernel
theorem kw_X5_36 : m_cwS RX5 36 mM_X5_beside 1 = true := by decide +kernel
theorem kw_L_119 : m_cwV RL 119 mM_X8_can 0 = true := by decide +kernel
theorem kw_X8_173 : m_cwV RX8 173 mM_X8_bestSearch 0 = true := by decide +kernel
theorem kw_X8_244 : m_cwV RX8 244 mM_X4_run 3 = true := by decide +kernel
theorem kw_X4_52 : m_cwV RX4 52 mM_X4_listSquares 1 = true := by decide +kernel
theorem kw_X4_79 : m_cwS RX4 79 mM_X5_has 2 = true := by decide +kernel
theorem kw_X4_59 : m_cwV RX4 59 mM_X7_become 1 = true := by decide +kernel
theorem kw_X4_63 : m_cwV RX4 63 mM_X7_lift 1 = true := by decide +kernel
theorem kw_X4_66 : m_cwV RX4 66 mM_X0_worthOf 1 = true := by decide +kernel
theorem kw_X4_72 : m_cwV RX4 72 mM_X0_brokenByPair 1 = true := by decide +kernel
theorem kw_X0_38 : m_cwV RX0 38 mM_X2_isBrokenByPair 1 = true := by decide +kernel
theorem kw_X4_75 : m_cwV RX4 75 mM_X4_putFrom 3 = true := by decide +kernel
theorem kw_X4_85 : m_cwS RX4 85 mM_J6_bitCount_0f7a4 1 = true := by decide +kernel
theorem kw_X4_89 : m_cwV RX4 89 mM_X0_brokenByWhole 1 = true := by decide +kernel
theorem kw_X0_45 : m_cwV RX0 45 mM_X2_isBrokenByWhole 1 = true := by decide +kernel
theorem kw_X4_92 : m_cwV RX4 92 mM_X4_judge 2 = true := by decide +kernel
theorem kw_X4_111 : m_cwS RX4 111 mM_J9_max_7cf53 2 = true := by decide +kernel
theorem kw_X4_96 : m_cwV RX4 96 mM_X0_worthOfPutting 3 = true := by decide +kernel
theorem kw_X0_30 : m_cwV RX0 30 mM_X2_worthOfPutting 3 = true := by decide +kernel
theorem kw_X2_46 : m_cwV RX2 46 mM_X2_countNewPairs 3 = true := by decide +kernel
theorem kw_X4_100 : m_cwV RX4 100 mM_X0_brokenByPutting 3 = true := by decide +kernel
theorem kw_X0_41 : m_cwV RX0 41 mM_X2_isBrokenByPutting 3 = true := by decide +kernel
theorem kw_X4_103 : m_cwS RX4 103 mM_X5_only 1 = true := by decide +kernel
theorem kw_X4_107 : m_cwV RX4 107 mM_X7_put 2 = true := by decide +kernel
theorem kw_X7_25 : m_cwS RX7 25 mM_J13_bitCount_95d88 1 = true := by decide +kernel
theorem kw_X7_31 : m_cwV RX7 31 mM_X7_lift 1 = true := by decide +kernel
theorem kw_L_130 : m_cwV RL 130 mM_X8_take 0 = true := by decide +kernel
theorem kw_X8_169 : m_cwV RX8 169 mM_X7_become 1 = true := by decide +kernel
theorem kw_L_141 : m_cwV RL 141 mM_X8_keep 0 = true := by decide +kernel
theorem kw_L_151 : m_cwV RL 151 mM_X8_far 0 = true := by decide +kernel
theorem kw_X8_229 : m_cwV RX8 229 mM_X7_of 1 = true := by decide +kernel
theorem kw_X8_236 : m_cwS RX8 236 mM_X5_stepsToAll 3 = true := by decide +kernel
theorem kw_L_155 : m_cwV RL 155 mM_X8_count 1 = true := by decide +kernel
theorem kw_X8_127 : m_cwS RX8 127 mM_J13_bitCount_95d88 1 = true := by decide +kernel
theorem kw_X8_240 : m_cwV RX8 240 mM_X0_countLaws 0 = true := by decide +kernel
theorem kw_X0_22 : m_cwV RX0 22 mM_X2_isLaw 0 = true := by decide +kernel
theorem kw_L_75 : m_cwS RL 75 mM_L_use 5 = true := by decide +kernel
theorem kw_L_7 : m_cwV RL 7 mM_X8_use 3 = true := by decide +kernel
theorem kw_X8_94 : m_cwS RX8 94 mM_X8_checkSquare 1 = true := by decide +kernel
theorem kw_X8_107 : m_cwS RX8 107 mM_X5_rectangle 2 = true := by decide +kernel
theorem kw_X8_113 : m_cwV RX8 113 mM_X7_put 2 = true := by decide +kernel
theorem kw_L_84 : m_cwS RL 84 mM_L_soil 4 = true := by decide +kernel
theorem kw_L_17 : m_cwV RL 17 mM_X8_soil 3 = true := by decide +kernel
theorem kw_X8_119 : m_cwV RX8 119 mM_X1_putSoil 2 = true := by decide +kernel
theorem kw_L_88 : m_cwS RL 88 mM_L_free 4 = true := by decide +kernel
theorem kw_L_21 : m_cwV RL 21 mM_X8_free 2 = true := by decide +kernel
theorem kw_X8_123 : m_cwS RX8 123 mM_X5_has 2 = true := by decide +kernel
theorem kw_X8_133 : m_cwS RX8 133 mM_X5_only 1 = true := by decide +kernel
theorem kw_L_92 : m_cwS RL 92 mM_L_gate 2 = true := by decide +kernel
theorem kw_L_25 : m_cwV RL 25 mM_X8_gate 1 = true := by decide +kernel
theorem kw_L_96 : m_cwS RL 96 mM_L_book 2 = true := by decide +kernel
theorem kw_L_29 : m_cwV RL 29 mM_X8_book 0 = true := by decide +kernel
theorem kw_X8_137 : m_cwV RX8 137 mM_X3_readInto 1 = true := by decide +kernel
theorem kw_X3_27 : m_cwV RX3 27 mM_X3_skipBlanks 0 = true := by decide +kernel
theorem kw_X3_30 : m_cwV RX3 30 mM_X6_at 1 = true := by decide +kernel
theorem kw_X3_40 : m_cwV RX3 40 mM_X3_readLine 1 = true := by decide +kernel
theorem kw_X3_53 : m_cwV RX3 53 mM_X3_skipWord 1 = true := by decide +kernel
theorem kw_X3_131 : m_cwV RX3 131 mM_X3_runLength 2 = true := by decide +kernel
theorem kw_X3_135 : m_cwV RX3 135 mM_J0_length_8abf5 0 = true := by decide +kernel
theorem kw_J0_335 : m_cwV RJ0 335 mM_J0_coder_7d493 0 = true := by decide +kernel
theorem kw_X3_140 : m_cwV RX3 140 mM_J0_charAt_5068e 1 = true := by decide +kernel
theorem kw_J0_492 : m_cwV RJ0 492 mM_J0_isLatin1_aae02 0 = true := by decide +kernel
theorem kw_J0_495 : m_cwS RJ0 495 mM_J1_charAt_3b067 2 = true := by decide +kernel
theorem kw_J1_9 : m_cwS RJ1 9 mM_J0_checkIndex_df160 2 = true := by decide +kernel
theorem kw_J0_1059 : m_cwS RJ0 1059 mM_J3_checkIndex_8e157 3 = true := by decide +kernel
theorem kw_X3_57 : m_cwV RX3 57 mM_X3_readLaw 1 = true := by decide +kernel
theorem kw_X3_68 : m_cwV RX3 68 mM_X3_readUse 0 = true := by decide +kernel
theorem kw_X3_48 : m_cwV RX3 48 mM_X3_refuseNext 0 = true := by decide +kernel
theorem kw_X3_79 : m_cwV RX3 79 mM_X3_readNumber 2 = true := by decide +kernel
theorem kw_X3_62 : m_cwV RX3 62 mM_X3_readGrow 1 = true := by decide +kernel
theorem kw_X3_112 : m_cwV RX3 112 mM_X3_readWord 1 = true := by decide +kernel
theorem kw_X3_65 : m_cwV RX3 65 mM_X3_readWorth 1 = true := by decide +kernel
theorem kw_X3_44 : m_cwV RX3 44 mM_X3_readSemicolon 0 = true := by decide +kernel
theorem kw_L_108 : m_cwS RL 108 mM_L_adds 3 = true := by decide +kernel
theorem kw_L_33 : m_cwV RL 33 mM_X8_adds 1 = true := by decide +kernel
theorem kw_X8_150 : m_cwV RX8 150 mM_X8_checkLine 1 = true := by decide +kernel
theorem kw_X8_157 : m_cwV RX8 157 mM_X2_worthOf 1 = true := by decide +kernel
theorem kw_L_116 : m_cwS RL 116 mM_L_years 3 = true := by decide +kernel
theorem kw_L_37 : m_cwV RL 37 mM_X8_years 1 = true := by decide +kernel
theorem kw_X8_165 : m_cwV RX8 165 mM_X0_growInto 2 = true := by decide +kernel
theorem kw_X0_54 : m_cwV RX0 54 mM_X7_become 1 = true := by decide +kernel
theorem kw_X0_60 : m_cwV RX0 60 mM_X2_growsOn 2 = true := by decide +kernel
theorem kw_X2_83 : m_cwS RX2 83 mM_X5_has 2 = true := by decide +kernel
theorem kw_X2_87 : m_cwV RX2 87 mM_X1_countAround 3 = true := by decide +kernel
theorem kw_X0_64 : m_cwS RX0 64 mM_X5_only 1 = true := by decide +kernel
theorem kw_X0_73 : m_cwV RX0 73 mM_X7_put 2 = true := by decide +kernel
theorem kw_L_124 : m_cwS RL 124 mM_L_best 2 = true := by decide +kernel
theorem kw_L_40 : m_cwV RL 40 mM_X8_best 0 = true := by decide +kernel
theorem kw_L_127 : m_cwS RL 127 mM_L_given 3 = true := by decide +kernel
theorem kw_L_45 : m_cwV RL 45 mM_X8_given 1 = true := by decide +kernel
theorem kw_X8_191 : m_cwV RX8 191 mM_X7_useOf 1 = true := by decide +kernel
theorem kw_X7_19 : m_cwS RX7 19 mM_X5_has 2 = true := by decide +kernel
theorem kw_L_134 : m_cwS RL 134 mM_L_cost 3 = true := by decide +kernel
theorem kw_L_48 : m_cwV RL 48 mM_X8_cost 1 = true := by decide +kernel
theorem kw_X8_195 : m_cwV RX8 195 mM_X2_isLaw 0 = true := by decide +kernel
theorem kw_X8_204 : m_cwS RX8 204 mM_J9_max_7cf53 2 = true := by decide +kernel
theorem kw_L_137 : m_cwS RL 137 mM_L_look 4 = true := by decide +kernel
theorem kw_L_51 : m_cwV RL 51 mM_X8_look 2 = true := by decide +kernel
theorem kw_X8_213 : m_cwV RX8 213 mM_X7_likeBeside 1 = true := by decide +kernel
theorem kw_X7_35 : m_cwS RX7 35 mM_X5_only 1 = true := by decide +kernel
theorem kw_X7_39 : m_cwS RX7 39 mM_X5_beside 1 = true := by decide +kernel
theorem kw_L_145 : m_cwS RL 145 mM_L_unlike 4 = true := by decide +kernel
theorem kw_L_55 : m_cwV RL 55 mM_X8_unlike 2 = true := by decide +kernel
theorem kw_X8_218 : m_cwV RX8 218 mM_X8_planOrLand 1 = true := by decide +kernel
theorem kw_X8_226 : m_cwV RX8 226 mM_X8_checkPlan 1 = true := by decide +kernel
theorem kw_X8_222 : m_cwV RX8 222 mM_X7_differencesFrom 1 = true := by decide +kernel
theorem kw_L_148 : m_cwS RL 148 mM_L_back 3 = true := by decide +kernel
theorem kw_L_58 : m_cwV RL 58 mM_X8_back 1 = true := by decide +kernel
theorem kw_L_64 : m_cwI RL 64 mM_X9_init 0 = true := by decide +kernel
theorem kw_X9_1 : m_oi RX9 1 = true := by decide +kernel
theorem kw_L_81 : m_cwV RL 81 mM_X9_thrown 0 = true := by decide +kernel
theorem kw_L_80 : m_cwV RL 80 mM_X9_use 3 = true := by decide +kernel
theorem kw_X9_95 : m_cwS RX9 95 mM_X9_noSquare 1 = true := by decide +kernel
theorem kw_X9_82 : m_cwS RX9 82 mM_X9_in 3 = true := by decide +kernel
theorem kw_X9_99 : m_cwV RX9 99 mM_X9_throwsIf 2 = true := by decide +kernel
theorem kw_X9_103 : m_cwS RX9 103 mM_X9_isIn 3 = true := by decide +kernel
theorem kw_X9_86 : m_cwS RX9 86 mM_J9_min_7cf53 2 = true := by decide +kernel
theorem kw_X9_92 : m_cwS RX9 92 mM_J9_max_7cf53 2 = true := by decide +kernel
theorem kw_L_87 : m_cwV RL 87 mM_X9_soil 3 = true := by decide +kernel
theorem kw_L_91 : m_cwV RL 91 mM_X9_free 2 = true := by decide +kernel
theorem kw_L_95 : m_cwV RL 95 mM_X9_gate 1 = true := by decide +kernel
theorem kw_L_69 : m_cwV RL 69 mM_X9_feed 5 = true := by decide +kernel
theorem kw_L_74 : m_cwV RL 74 mM_X9_end 1 = true := by decide +kernel
theorem kw_L_99 : m_cwV RL 99 mM_X9_book 0 = true := by decide +kernel
theorem kw_X9_207 : m_cwV RX9 207 mM_X9_readAll 0 = true := by decide +kernel
theorem kw_X9_132 : m_cwV RX9 132 mM_X9_blanks 0 = true := by decide +kernel
theorem kw_X9_125 : m_cwV RX9 125 mM_X9_isAt 2 = true := by decide +kernel
theorem kw_X9_204 : m_cwV RX9 204 mM_X9_readLine 1 = true := by decide +kernel
theorem kw_X9_145 : m_cwV RX9 145 mM_X9_word 0 = true := by decide +kernel
theorem kw_X9_148 : m_cwV RX9 148 mM_X9_isWord 1 = true := by decide +kernel
theorem kw_X9_135 : m_cwV RX9 135 mM_J0_length_8abf5 0 = true := by decide +kernel
theorem kw_X9_141 : m_cwV RX9 141 mM_J0_charAt_5068e 1 = true := by decide +kernel
theorem kw_X9_193 : m_cwV RX9 193 mM_X9_readLaw 1 = true := by decide +kernel
theorem kw_X9_172 : m_cwV RX9 172 mM_X9_readUse 0 = true := by decide +kernel
theorem kw_X9_162 : m_cwV RX9 162 mM_X9_useOf 0 = true := by decide +kernel
theorem kw_X9_167 : m_cwV RX9 167 mM_X9_number 2 = true := by decide +kernel
theorem kw_X9_198 : m_cwV RX9 198 mM_X9_readGrow 1 = true := by decide +kernel
theorem kw_X9_186 : m_cwV RX9 186 mM_X9_need 1 = true := by decide +kernel
theorem kw_X9_201 : m_cwV RX9 201 mM_X9_readWorth 1 = true := by decide +kernel
theorem kw_L_103 : m_cwV RL 103 mM_X9_fault 0 = true := by decide +kernel
theorem kw_L_107 : m_cwV RL 107 mM_X9_worth 0 = true := by decide +kernel
theorem kw_X9_226 : m_cwV RX9 226 mM_X9_worthOf 0 = true := by decide +kernel
theorem kw_X9_223 : m_cwV RX9 223 mM_X9_addsOf 1 = true := by decide +kernel
theorem kw_X9_215 : m_cwV RX9 215 mM_X9_alone 3 = true := by decide +kernel
theorem kw_X9_219 : m_cwV RX9 219 mM_X9_pair 5 = true := by decide +kernel
theorem kw_X9_213 : m_cwS RX9 213 mM_X9_apart 2 = true := by decide +kernel
theorem kw_X9_112 : m_cwS RX9 112 mM_J9_abs_0f7a4 1 = true := by decide +kernel
theorem kw_L_111 : m_cwV RL 111 mM_X9_adds 1 = true := by decide +kernel
theorem kw_L_115 : m_cwV RL 115 mM_X9_broken 0 = true := by decide +kernel
theorem kw_X9_241 : m_cwV RX9 241 mM_X9_holds 1 = true := by decide +kernel
theorem kw_X9_232 : m_cwV RX9 232 mM_X9_areApart 1 = true := by decide +kernel
theorem kw_X9_235 : m_cwV RX9 235 mM_X9_countOf 1 = true := by decide +kernel
theorem kw_X9_238 : m_cwV RX9 238 mM_X9_areJoined 1 = true := by decide +kernel
theorem kw_X9_229 : m_cwS RX9 229 mM_X9_beside 2 = true := by decide +kernel
theorem kw_L_118 : m_cwV RL 118 mM_X9_years 1 = true := by decide +kernel
theorem kw_X9_247 : m_cwV RX9 247 mM_X9_grows 2 = true := by decide +kernel
theorem kw_L_123 : m_cwV RL 123 mM_X9_can 0 = true := by decide +kernel
theorem kw_X9_266 : m_cwV RX9 266 mM_X9_seeks 1 = true := by decide +kernel
theorem kw_X9_254 : m_cwV RX9 254 mM_X9_weighs 0 = true := by decide +kernel
theorem kw_X9_250 : m_cwS RX9 250 mM_X9_bothAt 4 = true := by decide +kernel
theorem kw_X9_257 : m_cwV RX9 257 mM_X9_others 0 = true := by decide +kernel
theorem kw_X9_263 : m_cwV RX9 263 mM_X9_allHold 1 = true := by decide +kernel
theorem kw_L_126 : m_cwV RL 126 mM_X9_best 0 = true := by decide +kernel
theorem kw_L_129 : m_cwV RL 129 mM_X9_given 1 = true := by decide +kernel
theorem kw_L_133 : m_cwV RL 133 mM_X9_take 0 = true := by decide +kernel
theorem kw_L_136 : m_cwV RL 136 mM_X9_cost 1 = true := by decide +kernel
theorem kw_X9_269 : m_cwV RX9 269 mM_X9_isLaw 1 = true := by decide +kernel
theorem kw_L_140 : m_cwV RL 140 mM_X9_look 2 = true := by decide +kernel
theorem kw_L_144 : m_cwV RL 144 mM_X9_keep 0 = true := by decide +kernel
theorem kw_L_147 : m_cwV RL 147 mM_X9_unlike 2 = true := by decide +kernel
theorem kw_X9_275 : m_cwV RX9 275 mM_X9_useIn 2 = true := by decide +kernel
theorem kw_L_150 : m_cwV RL 150 mM_X9_back 1 = true := by decide +kernel
theorem kw_L_154 : m_cwV RL 154 mM_X9_far 0 = true := by decide +kernel
theorem kw_L_158 : m_cwV RL 158 mM_X9_count 1 = true := by decide +kernel
theorem kn_L_8 : m_nw RL 8 7 = true := by decide +kernel
theorem kn_X8_9 : m_nw RX8 9 5 = true := by decide +kernel
theorem kn_X8_16 : m_nw RX8 16 3 = true := by decide +kernel
theorem kn_X8_25 : m_nw RX8 25 1 = true := by decide +kernel
theorem kn_X1_9 : m_nw RX1 9 6 = true := by decide +kernel
theorem kn_X8_32 : m_nw RX8 32 6 = true := by decide +kernel
theorem kn_X8_43 : m_nw RX8 43 0 = true := by decide +kernel
theorem kn_X0_9 : m_nw RX0 9 2 = true := by decide +kernel
theorem kn_X8_53 : m_nw RX8 53 4 = true := by decide +kernel
theorem kn_X4_9 : m_nw RX4 9 1 = true := by decide +kernel
theorem kn_X4_24 : m_nw RX4 24 6 = true := by decide +kernel
theorem kn_L_62 : m_nw RL 62 8 = true := by decide +kernel
end
section
/-! ONE STEP of the small machine: written by wip/gen_step.py -/
theorem m_own {M : mM} (h : m_okM M = true) : m_owns.getD M.2.2.2.2.2.1 "" = M.1.cls := by
  simp only [m_okM, Bool.and_eq_true, decide_eq_true_eq] at h
  exact h.1
theorem m_dec {M : mM} (h : m_okM M = true) {pc t : Nat} {i : Instr} (hf : (m_tb M).lookup pc = some (i, t)) :
    ∃ n, decode M.2.1 pc = .ok (i, n) ∧ (m_sw i = false → n = m_len i) ∧ (∀ o, m_tgt i = some o → (pc : Int) + o = (t : Int)) ∧ ∀ v b, m_cv i = some (v, b) → v = bif b then nI t else -nI t := by
  have hm : (pc, i, t) ∈ m_tb M := by
    obtain ⟨l1, l2, e, -⟩ := List.lookup_eq_some_iff.mp hf
    rw [e]; simp
  simp only [m_okM, Bool.and_eq_true] at h
  have := List.all_eq_true.mp h.2 _ hm
  unfold m_okI at this
  dsimp only at this
  cases hd : decode M.2.1 pc with
  | error e => rw [hd] at this; cases this
  | ok q =>
    obtain ⟨i', n⟩ := q
    rw [hd] at this
    simp only [Bool.and_eq_true, Bool.or_eq_true, decide_eq_true_eq] at this
    obtain ⟨⟨⟨h1, h2⟩, h3⟩, h4⟩ := this
    subst h1
    refine ⟨n, rfl, fun hs => ?_, fun o ho => ?_, fun v b hv => ?_⟩
    · rcases h2 with h2 | h2
      · exact h2
      · rw [hs] at h2; cases h2
    · rw [ho] at h3
      exact of_decide_eq_true h3
    · rw [hv] at h4
      exact of_decide_eq_true h4
def m_ld (L : List (Option Value)) (i : Nat) : Option Value := match L[i]? with
  | some (some v) => some v
  | _ => none
def m_c2 (L : List (Option Value)) : Nat → Bool
  | 0 => false
  | j + 1 => match L[j]? with
    | some (some w) => w.category == 2
    | _ => false
def m_sto (L : List (Option Value)) (i : Nat) (v : Value) : Option (List (Option Value)) := bif Nat.blt i L.length && !(m_c2 L i) then some (L.set i (some v)) else none
def m_stoL (L : List (Option Value)) (i : Nat) (v : Value) : Option (List (Option Value)) := bif Nat.blt (i + 1) L.length && !(m_c2 L i) then some ((L.set i (some v)).set (i + 1) none) else none
theorem m_ld_at {E : mE} {ls : Array Slot} {nL : Nat} {L : List (Option Value)} (hL : m_L E ls nL L) {i : Nat} {v : Value} (h : m_ld L i = some v) : ls[i]? = some (Slot.val (m_v E v)) := by
  unfold m_ld at h
  split at h
  · cases h
    rename_i w hw
    exact hL.2.2.2 i _ hw
  · cases h
def m_al (E : mE) (L : List (Option Value)) : List (Nat × Value) := (List.range L.length).filterMap (fun i => (m_ld L i).map (fun v => (i, m_v E v)))
theorem m_al_mem {E : mE} {L : List (Option Value)} {q : Nat × Value} : q ∈ m_al E L ↔ ∃ v, m_ld L q.1 = some v ∧ q.2 = m_v E v := by
  unfold m_al
  rw [List.mem_filterMap]
  constructor
  · rintro ⟨i, hi, h⟩
    cases hl : m_ld L i with
    | none => rw [hl] at h; cases h
    | some v =>
      rw [hl] at h
      cases h
      exact ⟨v, hl, rfl⟩
  · rintro ⟨v, hv, e⟩
    refine ⟨q.1, ?_, by rw [hv, Option.map_some, ← e]⟩
    rw [List.mem_range]
    unfold m_ld at hv
    split at hv
    · rename_i w hw
      exact (List.getElem?_eq_some_iff.mp hw).1
    · cases hv
theorem m_al_has {E : mE} {ls : Array Slot} {nL : Nat} {L : List (Option Value)} (hL : m_L E ls nL L) : lv_has ls nL (m_al E L) :=
  ⟨hL.1, hL.2.1, fun q hq => by
    obtain ⟨v, hv, e⟩ := m_al_mem.mp hq
    rw [e]; exact m_ld_at hL hv⟩
theorem m_ld_get {L : List (Option Value)} {i : Nat} {v : Value} (h : L[i]? = some (some v)) : m_ld L i = some v := by unfold m_ld; rw [h]
theorem m_sto_L {E : mE} {ls' : Array Slot} {nL : Nat} {L L' : List (Option Value)} {i : Nat} {v : Value} (hl : L.length = nL) (hs : m_sto L i v = some L')
    (h : lv_has ls' nL ((i, m_v E v) :: (m_al E L).filter (fun q => !(q.1 == i) && !(q.1 + 1 == i && q.2.category == 2)))) : m_L E ls' nL L' := by
  unfold m_sto at hs
  cases hc : (Nat.blt i L.length && !(m_c2 L i)) with
  | false => rw [hc] at hs; cases hs
  | true =>
    rw [hc] at hs
    cases hs
    simp only [Bool.and_eq_true, Bool.not_eq_true'] at hc
    refine ⟨h.1, h.2.1, by simpa using hl, fun j w hw => ?_⟩
    by_cases hj : j = i
    · subst hj
      rw [List.getElem?_set_self (by simpa [Nat.blt_eq] using hc.1)] at hw
      cases hw
      exact h.2.2 (j, m_v E v) (by simp)
    · rw [List.getElem?_set_ne (by omega)] at hw
      refine h.2.2 (j, m_v E w) (List.mem_cons_of_mem _ (List.mem_filter.mpr ⟨m_al_mem.mpr ⟨w, m_ld_get hw, rfl⟩, ?_⟩))
      simp only [Bool.and_eq_true, Bool.not_eq_true']
      refine ⟨by simpa using hj, ?_⟩
      by_cases hi : j + 1 = i
      · subst hi
        have := hc.2
        simp only [m_c2, hw] at this
        simp [m_cat, this]
      · simp [hi]
theorem m_stoL_L {E : mE} {ls' : Array Slot} {nL : Nat} {L L' : List (Option Value)} {i : Nat} {v : Value} (hl : L.length = nL) (hs : m_stoL L i v = some L')
    (h : lv_has ls' nL ((i, m_v E v) :: (m_al E L).filter (fun q => !(q.1 == i) && (!(q.1 == i + 1) && !(q.1 + 1 == i && q.2.category == 2))))) : m_L E ls' nL L' := by
  unfold m_stoL at hs
  cases hc : (Nat.blt (i + 1) L.length && !(m_c2 L i)) with
  | false => rw [hc] at hs; cases hs
  | true =>
    rw [hc] at hs
    cases hs
    simp only [Bool.and_eq_true, Bool.not_eq_true'] at hc
    have hlt : i + 1 < L.length := by simpa [Nat.blt_eq] using hc.1
    refine ⟨h.1, h.2.1, by simpa using hl, fun j w hw => ?_⟩
    by_cases hj1 : j = i + 1
    · subst hj1
      rw [List.getElem?_set_self (by simpa using hlt)] at hw
      cases hw
    · rw [List.getElem?_set_ne (by omega)] at hw
      by_cases hj : j = i
      · subst hj
        rw [List.getElem?_set_self (by omega)] at hw
        cases hw
        exact h.2.2 (j, m_v E v) (by simp)
      · rw [List.getElem?_set_ne (by omega)] at hw
        refine h.2.2 (j, m_v E w) (List.mem_cons_of_mem _ (List.mem_filter.mpr ⟨m_al_mem.mpr ⟨w, m_ld_get hw, rfl⟩, ?_⟩))
        simp only [Bool.and_eq_true, Bool.not_eq_true']
        refine ⟨by simpa using hj, by simpa using hj1, ?_⟩
        by_cases hi : j + 1 = i
        · subst hi
          have := hc.2
          simp only [m_c2, hw] at this
          simp [m_cat, this]
        · simp [hi]
theorem m_sto_lt {L L' : List (Option Value)} {i : Nat} {v : Value} (hs : m_sto L i v = some L') : i < L.length := by
  unfold m_sto at hs
  cases hc : (Nat.blt i L.length && !(m_c2 L i)) with
  | false => rw [hc] at hs; cases hs
  | true =>
    simp only [Bool.and_eq_true] at hc
    simpa [Nat.blt_eq] using hc.1
theorem m_stoL_lt {L L' : List (Option Value)} {i : Nat} {v : Value} (hs : m_stoL L i v = some L') : i + 1 < L.length := by
  unfold m_stoL at hs
  cases hc : (Nat.blt (i + 1) L.length && !(m_c2 L i)) with
  | false => rw [hc] at hs; cases hs
  | true =>
    simp only [Bool.and_eq_true] at hc
    simpa [Nat.blt_eq] using hc.1
/-- what a field takes -/
def m_fit : FieldType → Value → Bool
  | .int, .int _ => true
  | .long, .long _ => true
  | .boolean, .int x => decide (x = 0) || decide (x = 1)
  | .object _, .ref _ => true
  | .object _, .null => true
  | .array _, .ref _ => true
  | .array _, .null => true
  | _, _ => false
theorem m_fit_ok {ty : FieldType} {v : Value} (E : mE) (h : m_fit ty v = true) : narrow ty (m_v E v) = m_v E v ∧ fits ty (m_v E v) = true := by
  unfold m_fit at h
  split at h
  · exact ⟨rfl, rfl⟩
  · exact ⟨rfl, rfl⟩
  · rename_i x
    simp only [Bool.or_eq_true, decide_eq_true_eq] at h
    rcases h with rfl | rfl
    · exact (show narrow .boolean (.int 0) = .int 0 ∧ fits .boolean (.int 0) = true from ⟨by decide, by decide⟩)
    · exact (show narrow .boolean (.int 1) = .int 1 ∧ fits .boolean (.int 1) = true from ⟨by decide, by decide⟩)
  all_goals first | exact ⟨rfl, rfl⟩ | cases h
theorem m_up {f : Nat → Option Nat} {g : Nat → Nat} {i b : Nat} : (fun j => (va_up f i (some b) j).map g) = va_up (fun j => (f j).map g) i (some (g b)) := by
  funext j
  unfold va_up
  by_cases hj : j = i <;> simp [hj]
def m_fin (c k : Nat) : Bool := ((m_cl.getD c (RX0, TX0, 2)).2.1 k).2.2.2
def m_rf : Option Nat → Value
  | some a => .ref a
  | none => .null

def m_off (df lo hi : Int) (offs : Array Int) (x : Int32) : Int := if x.toInt < lo ∨ hi < x.toInt then df else offs.getD (x.toInt - lo).toNat 0
/-- an instruction: the state behind it, and what must hold for it -/
def m_ins (o : Nat) (ini : Bool) (ins : Instr) (t pc : Nat) (L : List (Option Value)) (st : List Value) (h : mH) : Option (mS × Prop) := match ins with
  | .iconst n => match n with
    | .ofNat _ => some ((pc + 1, L, .int (nI t) :: st, h), True)
    | .negSucc _ => some ((pc + 1, L, .int (-nI t) :: st, h), True)
  | .bipush n => match n with
    | .ofNat _ => some ((pc + 2, L, .int (nI t) :: st, h), True)
    | .negSucc _ => some ((pc + 2, L, .int (-nI t) :: st, h), True)
  | .sipush n => match n with
    | .ofNat _ => some ((pc + 3, L, .int (nI t) :: st, h), True)
    | .negSucc _ => some ((pc + 3, L, .int (-nI t) :: st, h), True)
  | .lconst n => some ((pc + 1, L, .long (Int64.ofNat (n : Nat)) :: st, h), True)
  | .iload i => match m_ld L i with
    | some (.int x) => some ((pc + 2, L, .int x :: st, h), True)
    | _ => none
  | .iload_n k => match m_ld L (k : Nat) with
    | some (.int x) => some ((pc + 1, L, .int x :: st, h), True)
    | _ => none
  | .lload i => match m_ld L i with
    | some (.long x) => some ((pc + 2, L, .long x :: st, h), True)
    | _ => none
  | .lload_n k => match m_ld L (k : Nat) with
    | some (.long x) => some ((pc + 1, L, .long x :: st, h), True)
    | _ => none
  | .aload i => match m_ld L i with
    | some (.ref x) => some ((pc + 2, L, .ref x :: st, h), True)
    | _ => none
  | .aload_n k => match m_ld L (k : Nat) with
    | some (.ref x) => some ((pc + 1, L, .ref x :: st, h), True)
    | _ => none
  | .istore i => match st with
    | .int x :: r => match m_sto L i (.int x) with
      | some L2 => some ((pc + 2, L2, r, h), True)
      | none => none
    | _ => none
  | .istore_n k => match st with
    | .int x :: r => match m_sto L (k : Nat) (.int x) with
      | some L2 => some ((pc + 1, L2, r, h), True)
      | none => none
    | _ => none
  | .astore i => match st with
    | .ref x :: r => match m_sto L i (.ref x) with
      | some L2 => some ((pc + 2, L2, r, h), True)
      | none => none
    | _ => none
  | .astore_n k => match st with
    | .ref x :: r => match m_sto L (k : Nat) (.ref x) with
      | some L2 => some ((pc + 1, L2, r, h), True)
      | none => none
    | _ => none
  | .lstore i => match st with
    | .long x :: r => match m_stoL L i (.long x) with
      | some L2 => some ((pc + 2, L2, r, h), True)
      | none => none
    | _ => none
  | .lstore_n k => match st with
    | .long x :: r => match m_stoL L (k : Nat) (.long x) with
      | some L2 => some ((pc + 1, L2, r, h), True)
      | none => none
    | _ => none
  | .iadd => match st with
    | .int y :: .int x :: r => some ((pc + 1, L, .int (x + y) :: r, h), True)
    | _ => none
  | .isub => match st with
    | .int y :: .int x :: r => some ((pc + 1, L, .int (x - y) :: r, h), True)
    | _ => none
  | .imul => match st with
    | .int y :: .int x :: r => some ((pc + 1, L, .int (x * y) :: r, h), True)
    | _ => none
  | .iand => match st with
    | .int y :: .int x :: r => some ((pc + 1, L, .int (x &&& y) :: r, h), True)
    | _ => none
  | .ior => match st with
    | .int y :: .int x :: r => some ((pc + 1, L, .int (x ||| y) :: r, h), True)
    | _ => none
  | .ixor => match st with
    | .int y :: .int x :: r => some ((pc + 1, L, .int (x ^^^ y) :: r, h), True)
    | _ => none
  | .ishl => match st with
    | .int y :: .int x :: r => some ((pc + 1, L, .int (x <<< (y &&& 31)) :: r, h), True)
    | _ => none
  | .ishr => match st with
    | .int y :: .int x :: r => some ((pc + 1, L, .int (x >>> (y &&& 31)) :: r, h), True)
    | _ => none
  | .iushr => match st with
    | .int y :: .int x :: r => some ((pc + 1, L, .int (x.toUInt32 >>> (y.toUInt32 &&& Int32.toUInt32 31)).toInt32 :: r, h), True)
    | _ => none
  | .ineg => match st with
    | .int x :: r => some ((pc + 1, L, .int (-x) :: r, h), True)
    | _ => none
  | .ladd => match st with
    | .long y :: .long x :: r => some ((pc + 1, L, .long (x + y) :: r, h), True)
    | _ => none
  | .lsub => match st with
    | .long y :: .long x :: r => some ((pc + 1, L, .long (x - y) :: r, h), True)
    | _ => none
  | .land => match st with
    | .long y :: .long x :: r => some ((pc + 1, L, .long (x &&& y) :: r, h), True)
    | _ => none
  | .lor => match st with
    | .long y :: .long x :: r => some ((pc + 1, L, .long (x ||| y) :: r, h), True)
    | _ => none
  | .lxor => match st with
    | .long y :: .long x :: r => some ((pc + 1, L, .long (x ^^^ y) :: r, h), True)
    | _ => none
  | .lneg => match st with
    | .long x :: r => some ((pc + 1, L, .long (-x) :: r, h), True)
    | _ => none
  | .lshl => match st with
    | .int y :: .long x :: r => some ((pc + 1, L, .long (x <<< (y.toInt64 &&& 63)) :: r, h), True)
    | _ => none
  | .lushr => match st with
    | .int y :: .long x :: r => some ((pc + 1, L, .long (x.toUInt64 >>> (y.toInt64.toUInt64 &&& Int64.toUInt64 63)).toInt64 :: r, h), True)
    | _ => none
  | .i2l => match st with
    | .int x :: r => some ((pc + 1, L, .long x.toInt64 :: r, h), True)
    | _ => none
  | .l2i => match st with
    | .long x :: r => some ((pc + 1, L, .int x.toInt32 :: r, h), True)
    | _ => none
  | .i2b => match st with
    | .int x :: r => some ((pc + 1, L, .int x.toInt8.toInt32 :: r, h), True)
    | _ => none
  | .lcmp => match st with
    | .long y :: .long x :: r => some ((pc + 1, L, .int (lg_cmp x y) :: r, h), True)
    | _ => none
  | .idiv => match st with
    | .int y :: .int x :: r => some ((pc + 1, L, .int (x / y) :: r, h), ¬ y = 0)
    | _ => none
  | .irem => match st with
    | .int y :: .int x :: r => some ((pc + 1, L, .int (x - x / y * y) :: r, h), ¬ y = 0)
    | _ => none
  | .dup => match st with
    | v :: r => bif (v.category == 1) then some ((pc + 1, L, v :: v :: r, h), True) else none
    | _ => none
  | .pop => match st with
    | v :: r => bif (v.category == 1) then some ((pc + 1, L, r, h), True) else none
    | _ => none
  | .dup2 => match st with
    | .int x :: .ref y :: r => some ((pc + 1, L, .int x :: .ref y :: .int x :: .ref y :: r, h), True)
    | _ => none
  | .iinc i n => match m_ld L i with
    | some (.int x) => match n with
      | .ofNat _ => match m_sto L i (.int (x + nI t)) with
        | some L2 => some ((pc + 3, L2, st, h), True)
        | none => none
      | .negSucc _ => match m_sto L i (.int (x + -nI t)) with
        | some L2 => some ((pc + 3, L2, st, h), True)
        | none => none
    | _ => none
  | .goto _ => some ((t, L, st, h), True)
  | .if_icmp q _ => match st with
    | .int y :: .int x :: r => match q with
      | .eq => some ((if x = y then (t, L, r, h) else (pc + 3, L, r, h)), True)
      | .ne => some ((if ¬ x = y then (t, L, r, h) else (pc + 3, L, r, h)), True)
      | .lt => some ((if x < y then (t, L, r, h) else (pc + 3, L, r, h)), True)
      | .ge => some ((if y ≤ x then (t, L, r, h) else (pc + 3, L, r, h)), True)
      | .gt => some ((if y < x then (t, L, r, h) else (pc + 3, L, r, h)), True)
      | .le => some ((if x ≤ y then (t, L, r, h) else (pc + 3, L, r, h)), True)
    | _ => none
  | .ifCond q _ => match st with
    | .int x :: r => match q with
      | .eq => some ((if x = 0 then (t, L, r, h) else (pc + 3, L, r, h)), True)
      | .ne => some ((if ¬ x = 0 then (t, L, r, h) else (pc + 3, L, r, h)), True)
      | .lt => some ((if x < 0 then (t, L, r, h) else (pc + 3, L, r, h)), True)
      | .ge => some ((if 0 ≤ x then (t, L, r, h) else (pc + 3, L, r, h)), True)
      | .gt => some ((if 0 < x then (t, L, r, h) else (pc + 3, L, r, h)), True)
      | .le => some ((if x ≤ 0 then (t, L, r, h) else (pc + 3, L, r, h)), True)
    | _ => none
  | .tableswitch df lo hi offs => match st with
    | .int x :: r => some ((((pc : Int) + m_off df lo hi offs x).toNat, L, r, h), 0 ≤ (pc : Int) + m_off df lo hi offs x ∧ (¬ (x.toInt < lo ∨ hi < x.toInt) → (x.toInt - lo).toNat < offs.size))
    | _ => none
  | .lookupswitch df ps => match st with
    | .int x :: r => some ((((pc : Int) + Op.lookupswitch.offset ps.toList df x.toInt).toNat, L, r, h), 0 ≤ (pc : Int) + Op.lookupswitch.offset ps.toList df x.toInt ∧ (ps.toList.zip (ps.toList.drop 1)).all (fun (a, next) => a.1 < next.1) = true)
    | _ => none
  | .ldc i => match m_CT.lookup (o, i) with
    | some (.int v) => some ((pc + 2, L, .int v :: st, h), True)
    | _ => none
  | .ldc_w i => match m_CT.lookup (o, i) with
    | some (.int v) => some ((pc + 3, L, .int v :: st, h), True)
    | _ => none
  | .ldc2_w i => match m_CT.lookup (o, i) with
    | some (.long v) => some ((pc + 3, L, .long v :: st, h), True)
    | _ => none
  | .getfield i => match st with
    | .ref a :: r => match m_FT.lookup (o, i) with
      | some (c, k, _) => match h[a]? with
        | some (.inr (c2, fs)) => bif c == c2 then (match fs[k]? with
          | some v => some ((pc + 3, L, v :: r, h), True)
          | none => none) else none
        | _ => none
      | none => none
    | _ => none
  | .putfield i => match st with
    | v :: .ref a :: r => match m_FT.lookup (o, i) with
      | some (c, k, n) => match h[a]? with
        | some (.inr (c2, fs)) => bif (c == c2) && Nat.blt k fs.length && m_fit (m_tyf c k) v && (!(m_fin c k) || (ini && (n == 0) && (m_owns.getD o "" == ((m_cl.getD c (RX0, TX0, 2)).2.1 k).1))) then some ((pc + 3, L, r, h.set a (.inr (c2, fs.set k v))), True) else none
        | _ => none
      | none => none
    | _ => none
  | .iaload => match st with
    | .int i :: .ref a :: r => match h[a]? with
      | some (.inl (0, n, .inl f)) => some ((pc + 1, L, .int (f i.toNatClampNeg) :: r, h), vp_in i n)
      | _ => none
    | _ => none
  | .laload => match st with
    | .int i :: .ref a :: r => match h[a]? with
      | some (.inl (1, n, .inr (.inl f))) => some ((pc + 1, L, .long (f i.toNatClampNeg) :: r, h), vp_in i n)
      | _ => none
    | _ => none
  | .baload => match st with
    | .int i :: .ref a :: r => match h[a]? with
      | some (.inl (2, n, .inl f)) => some ((pc + 1, L, .int (f i.toNatClampNeg) :: r, h), vp_in i n)
      | some (.inl (3, n, .inl f)) => some ((pc + 1, L, .int (f i.toNatClampNeg) :: r, h), vp_in i n)
      | _ => none
    | _ => none
  | .iastore => match st with
    | .int x :: .int i :: .ref a :: r => match h[a]? with
      | some (.inl (0, n, .inl f)) => some ((pc + 1, L, r, h.set a (.inl (0, n, .inl (upd f i.toNatClampNeg x)))), vp_in i n)
      | _ => none
    | _ => none
  | .lastore => match st with
    | .long x :: .int i :: .ref a :: r => match h[a]? with
      | some (.inl (1, n, .inr (.inl f))) => some ((pc + 1, L, r, h.set a (.inl (1, n, .inr (.inl (vp_updL f i.toNatClampNeg x))))), vp_in i n)
      | _ => none
    | _ => none
  | .bastore => match st with
    | .int x :: .int i :: .ref a :: r => match h[a]? with
      | some (.inl (2, n, .inl f)) => some ((pc + 1, L, r, h.set a (.inl (2, n, .inl (upd f i.toNatClampNeg (vp_nar .byte x))))), vp_in i n)
      | some (.inl (3, n, .inl f)) => some ((pc + 1, L, r, h.set a (.inl (3, n, .inl (upd f i.toNatClampNeg (vp_nar .boolean x))))), vp_in i n)
      | _ => none
    | _ => none
  | .aaload => match st with
    | .int i :: .ref a :: r => match h[a]? with
      | some (.inl (t, n, .inr (.inr (.inr (.inr f))))) => bif Nat.ble 4 t && Nat.ble t 6 then some ((pc + 1, L, m_rf (f i.toNatClampNeg) :: r, h), vp_in i n) else none
      | _ => none
    | _ => none
  | .aastore => match st with
    | .ref b :: .int i :: .ref a :: r => match h[a]?, h[b]? with
      | some (.inl (t, n, .inr (.inr (.inr (.inr f))))), some (.inr (c, vs)) => bif (t == 4 && c == 2) || (t == 5 && c == 6) then some ((pc + 1, L, r, h.set a (.inl (t, n, .inr (.inr (.inr (.inr (va_up f i.toNatClampNeg (some b)))))))), vp_in i n) else none
      | _, _ => none
    | _ => none
  | .arraylength => match st with
    | .ref a :: r => match h[a]? with
      | some (.inl (t, n, .inl _)) => bif (t == 0) || (t == 2) then some ((pc + 1, L, .int (Int32.ofNat n) :: r, h), True) else none
      | _ => none
    | _ => none
  | _ => none
def m_step (M : mM) : mS → Option (mS × Prop)
  | (pc, L, st, h) => match (m_tb M).lookup pc with
    | none => none
    | some (ins, t) => m_ins M.2.2.2.2.2.1 (decide (M.1.name = "<init>")) ins t pc L st h
theorem m_eqS {l : Launch} {EX : State → Prop} {E : mE} {M : mM} {d mc ms : Nat} {PR : Option Value → mH → Bool → Prop} {PX : String → mH → Prop} {tg : Bool} {kc ks : Nat} {S S' : mS} (h : m_J l EX E M d mc ms PR PX tg kc ks S) (e : S = S') : m_J l EX E M d mc ms PR PX tg kc ks S' := e ▸ h
/-- behind a write -/
theorem m_back {p : Program} {l : Launch} {e : Env} {s : State} {m : MethodId} {args : Array Value} {below : List Frame} {meth : Method} {c : Code} {R : Room} {E : mE} {tg : Bool} {kc ks : Nat} {h h1 : mH} {H H1 : Heap} {locs1 : List Loc} {Q : State → Prop} {g : JFrame}
    (hz1 : s.heap.size ≤ H.size) (hz2 : tg = true → s.heap.size + kc ≤ E.1 + h.length) (hR : m_R E tg h H) (hP1 : va_P E.2.2.1 m_cl (m_W E h1) H1) (hl : h1.length = h.length) (hS1 : va_S (fun q => E.1 ≤ q) E.2.2.2.2 H1 locs1)
    (k : ∀ H9, m_R E tg h1 H9 → s.heap.size ≤ H9.size → (tg = true → s.heap.size + kc ≤ E.1 + h1.length) → W p l e R s m args below meth c H9 locs1 kc ks Q g) : W p l e R s m args below meth c H1 locs1 kc ks Q g := by
  refine m_size (fun z1 z2 => ?_)
  refine k H1 ⟨hP1, ?_, fun ht => ?_, fun q hq => ?_, by rw [hl]; exact hR.2.2.2.2.1, hR.2.2.2.2.2⟩ z2 (fun ht => by rw [hl]; exact hz2 ht)
  · by_cases h0 : h1.length = 0
    · rw [h0]; have := hS1.1; rw [hR.2.2.2.2.2] at this; omega
    · have hlt : h1.length - 1 < h1.length := by omega
      have hg : (m_W E h1)[h1.length - 1]? = some (m_ad E (h1.length - 1), m_c E h1[h1.length - 1]) := m_W_get (List.getElem?_eq_getElem hlt)
      have := (hP1 _ _ hg).lt
      have hb : h1.length ≤ 1000000 := by rw [hl]; exact hR.2.2.2.2.1
      simp only [m_ad] at this
      rw [if_pos (by omega)] at this
      omega
  · have := hz2 ht; rw [hl]; omega
  · exact hS1.2.1 q (by rw [hR.2.2.2.2.2]; exact hq) (by omega)
set_option maxHeartbeats 4000000 in
theorem m_J_step {l : Launch} {EX : State → Prop} {E : mE} {M : mM} {d mc ms : Nat} {PR : Option Value → mH → Bool → Prop} {PX : String → mH → Prop} {tg : Bool} {kc ks : Nat} {S S' : mS} {CC : Prop} (hM : m_okM M = true) (hs : m_step M S = some (S', CC)) (hC : CC) (hJ : m_J l EX E M d mc ms PR PX tg kc ks S') : m_J l EX E M d mc ms PR PX tg kc ks S := by
  obtain ⟨pc, L, st, h⟩ := S
  unfold m_step at hs
  dsimp only at hs
  split at hs
  · cases hs
  rename_i ins t hf
  obtain ⟨n, hd1, hn, ht0, hc0⟩ := m_dec hM hf
  have hd0 : m_sw ins = false → decode M.2.1 pc = .ok (ins, m_len ins) := fun hs9 => by rw [← hn hs9]; exact hd1
  cases ins with
  | iconst n =>
    have hd := hd0 rfl
    have hv := hc0 _ _ rfl
    cases n with
    | ofNat n9 =>
      cases hs
      intro p e s m args below meth c H locs ls hX hR hz1 hz2 hlo hL
      have hv2 : decide (0 ≤ (Int.ofNat n9)) = true := by simp
      rw [hv2] at hv
      exact lv_iconst hX.1 hX.2.1 hd hv (hJ p e s m args below meth c H locs ls hX hR hz1 hz2 hlo hL)
    | negSucc n9 =>
      cases hs
      intro p e s m args below meth c H locs ls hX hR hz1 hz2 hlo hL
      have hv2 : decide (0 ≤ (Int.negSucc n9)) = false := by simp
      rw [hv2] at hv
      exact lv_iconst hX.1 hX.2.1 hd hv (hJ p e s m args below meth c H locs ls hX hR hz1 hz2 hlo hL)
  | bipush n =>
    have hd := hd0 rfl
    have hv := hc0 _ _ rfl
    cases n with
    | ofNat n9 =>
      cases hs
      intro p e s m args below meth c H locs ls hX hR hz1 hz2 hlo hL
      have hv2 : decide (0 ≤ (Int.ofNat n9)) = true := by simp
      rw [hv2] at hv
      exact lv_bipush hX.1 hX.2.1 hd hv (hJ p e s m args below meth c H locs ls hX hR hz1 hz2 hlo hL)
    | negSucc n9 =>
      cases hs
      intro p e s m args below meth c H locs ls hX hR hz1 hz2 hlo hL
      have hv2 : decide (0 ≤ (Int.negSucc n9)) = false := by simp
      rw [hv2] at hv
      exact lv_bipush hX.1 hX.2.1 hd hv (hJ p e s m args below meth c H locs ls hX hR hz1 hz2 hlo hL)
  | sipush n =>
    have hd := hd0 rfl
    have hv := hc0 _ _ rfl
    cases n with
    | ofNat n9 =>
      cases hs
      intro p e s m args below meth c H locs ls hX hR hz1 hz2 hlo hL
      have hv2 : decide (0 ≤ (Int.ofNat n9)) = true := by simp
      rw [hv2] at hv
      exact lv_sipush hX.1 hX.2.1 hd hv (hJ p e s m args below meth c H locs ls hX hR hz1 hz2 hlo hL)
    | negSucc n9 =>
      cases hs
      intro p e s m args below meth c H locs ls hX hR hz1 hz2 hlo hL
      have hv2 : decide (0 ≤ (Int.negSucc n9)) = false := by simp
      rw [hv2] at hv
      exact lv_sipush hX.1 hX.2.1 hd hv (hJ p e s m args below meth c H locs ls hX hR hz1 hz2 hlo hL)
  | lconst n =>
    cases hs
    have hd := hd0 rfl
    intro p e s m args below meth c H locs ls hX hR hz1 hz2 hlo hL
    exact lv_lconst hX.1 hX.2.1 hd rfl (hJ p e s m args below meth c H locs ls hX hR hz1 hz2 hlo hL)
  | iload i =>
    dsimp only [m_ins] at hs
    split at hs
    · rename_i hq
      cases hs
      have hd := hd0 rfl
      intro p e s m args below meth c H locs ls hX hR hz1 hz2 hlo hL
      exact lv_iload hX.1 hX.2.1 hd (m_ld_at hL hq) (hJ p e s m args below meth c H locs ls hX hR hz1 hz2 hlo hL)
    · cases hs
  | iload_n k =>
    dsimp only [m_ins] at hs
    split at hs
    · rename_i hq
      cases hs
      have hd := hd0 rfl
      intro p e s m args below meth c H locs ls hX hR hz1 hz2 hlo hL
      exact lv_iload_n hX.1 hX.2.1 hd rfl (m_ld_at hL hq) (hJ p e s m args below meth c H locs ls hX hR hz1 hz2 hlo hL)
    · cases hs
  | lload i =>
    dsimp only [m_ins] at hs
    split at hs
    · rename_i hq
      cases hs
      have hd := hd0 rfl
      intro p e s m args below meth c H locs ls hX hR hz1 hz2 hlo hL
      exact lv_lload hX.1 hX.2.1 hd (m_ld_at hL hq) (hJ p e s m args below meth c H locs ls hX hR hz1 hz2 hlo hL)
    · cases hs
  | lload_n k =>
    dsimp only [m_ins] at hs
    split at hs
    · rename_i hq
      cases hs
      have hd := hd0 rfl
      intro p e s m args below meth c H locs ls hX hR hz1 hz2 hlo hL
      exact lv_lload_n hX.1 hX.2.1 hd rfl (m_ld_at hL hq) (hJ p e s m args below meth c H locs ls hX hR hz1 hz2 hlo hL)
    · cases hs
  | aload i =>
    dsimp only [m_ins] at hs
    split at hs
    · rename_i hq
      cases hs
      have hd := hd0 rfl
      intro p e s m args below meth c H locs ls hX hR hz1 hz2 hlo hL
      exact lv_aload hX.1 hX.2.1 hd (m_ld_at hL hq) (hJ p e s m args below meth c H locs ls hX hR hz1 hz2 hlo hL)
    · cases hs
  | aload_n k =>
    dsimp only [m_ins] at hs
    split at hs
    · rename_i hq
      cases hs
      have hd := hd0 rfl
      intro p e s m args below meth c H locs ls hX hR hz1 hz2 hlo hL
      exact lv_aload_n hX.1 hX.2.1 hd rfl (m_ld_at hL hq) (hJ p e s m args below meth c H locs ls hX hR hz1 hz2 hlo hL)
    · cases hs
  | istore i =>
    dsimp only [m_ins] at hs
    split at hs
    · split at hs
      · rename_i hq
        cases hs
        have hd := hd0 rfl
        intro p e s m args below meth c H locs ls hX hR hz1 hz2 hlo hL
        exact lv_istore hX.1 hX.2.1 hd (m_al_has hL) (by rw [← hL.2.2.1]; exact m_sto_lt hq) rfl (fun ls2 h2 => hJ p e s m args below meth c H locs ls2 hX hR hz1 hz2 hlo (m_sto_L hL.2.2.1 hq h2))
      · cases hs
    · cases hs
  | istore_n k =>
    dsimp only [m_ins] at hs
    split at hs
    · split at hs
      · rename_i hq
        cases hs
        have hd := hd0 rfl
        intro p e s m args below meth c H locs ls hX hR hz1 hz2 hlo hL
        exact lv_istore_n hX.1 hX.2.1 hd rfl (m_al_has hL) (by rw [← hL.2.2.1]; exact m_sto_lt hq) rfl (fun ls2 h2 => hJ p e s m args below meth c H locs ls2 hX hR hz1 hz2 hlo (m_sto_L hL.2.2.1 hq h2))
      · cases hs
    · cases hs
  | astore i =>
    dsimp only [m_ins] at hs
    split at hs
    · split at hs
      · rename_i hq
        cases hs
        have hd := hd0 rfl
        intro p e s m args below meth c H locs ls hX hR hz1 hz2 hlo hL
        exact lv_astore hX.1 hX.2.1 hd (m_al_has hL) (by rw [← hL.2.2.1]; exact m_sto_lt hq) rfl (fun ls2 h2 => hJ p e s m args below meth c H locs ls2 hX hR hz1 hz2 hlo (m_sto_L hL.2.2.1 hq h2))
      · cases hs
    · cases hs
  | astore_n k =>
    dsimp only [m_ins] at hs
    split at hs
    · split at hs
      · rename_i hq
        cases hs
        have hd := hd0 rfl
        intro p e s m args below meth c H locs ls hX hR hz1 hz2 hlo hL
        exact lv_astore_n hX.1 hX.2.1 hd rfl (m_al_has hL) (by rw [← hL.2.2.1]; exact m_sto_lt hq) rfl (fun ls2 h2 => hJ p e s m args below meth c H locs ls2 hX hR hz1 hz2 hlo (m_sto_L hL.2.2.1 hq h2))
      · cases hs
    · cases hs
  | lstore i =>
    dsimp only [m_ins] at hs
    split at hs
    · split at hs
      · rename_i hq
        cases hs
        have hd := hd0 rfl
        intro p e s m args below meth c H locs ls hX hR hz1 hz2 hlo hL
        exact lv_lstore hX.1 hX.2.1 hd (m_al_has hL) (by rw [← hL.2.2.1]; exact m_stoL_lt hq) rfl (fun ls2 h2 => hJ p e s m args below meth c H locs ls2 hX hR hz1 hz2 hlo (m_stoL_L hL.2.2.1 hq h2))
      · cases hs
    · cases hs
  | lstore_n k =>
    dsimp only [m_ins] at hs
    split at hs
    · split at hs
      · rename_i hq
        cases hs
        have hd := hd0 rfl
        intro p e s m args below meth c H locs ls hX hR hz1 hz2 hlo hL
        exact lv_lstore_n hX.1 hX.2.1 hd rfl (m_al_has hL) (by rw [← hL.2.2.1]; exact m_stoL_lt hq) rfl (fun ls2 h2 => hJ p e s m args below meth c H locs ls2 hX hR hz1 hz2 hlo (m_stoL_L hL.2.2.1 hq h2))
      · cases hs
    · cases hs
  | iadd  =>
    dsimp only [m_ins] at hs
    split at hs
    · cases hs
      have hd := hd0 rfl
      intro p e s m args below meth c H locs ls hX hR hz1 hz2 hlo hL
      exact lv_iadd hX.1 hX.2.1 hd (hJ p e s m args below meth c H locs ls hX hR hz1 hz2 hlo hL)
    · cases hs
  | isub  =>
    dsimp only [m_ins] at hs
    split at hs
    · cases hs
      have hd := hd0 rfl
      intro p e s m args below meth c H locs ls hX hR hz1 hz2 hlo hL
      exact lv_isub hX.1 hX.2.1 hd (hJ p e s m args below meth c H locs ls hX hR hz1 hz2 hlo hL)
    · cases hs
  | imul  =>
    dsimp only [m_ins] at hs
    split at hs
    · cases hs
      have hd := hd0 rfl
      intro p e s m args below meth c H locs ls hX hR hz1 hz2 hlo hL
      exact lv_imul hX.1 hX.2.1 hd (hJ p e s m args below meth c H locs ls hX hR hz1 hz2 hlo hL)
    · cases hs
  | iand  =>
    dsimp only [m_ins] at hs
    split at hs
    · cases hs
      have hd := hd0 rfl
      intro p e s m args below meth c H locs ls hX hR hz1 hz2 hlo hL
      exact lv_iand hX.1 hX.2.1 hd (hJ p e s m args below meth c H locs ls hX hR hz1 hz2 hlo hL)
    · cases hs
  | ior  =>
    dsimp only [m_ins] at hs
    split at hs
    · cases hs
      have hd := hd0 rfl
      intro p e s m args below meth c H locs ls hX hR hz1 hz2 hlo hL
      exact lv_ior hX.1 hX.2.1 hd (hJ p e s m args below meth c H locs ls hX hR hz1 hz2 hlo hL)
    · cases hs
  | ixor  =>
    dsimp only [m_ins] at hs
    split at hs
    · cases hs
      have hd := hd0 rfl
      intro p e s m args below meth c H locs ls hX hR hz1 hz2 hlo hL
      exact lv_ixor hX.1 hX.2.1 hd (hJ p e s m args below meth c H locs ls hX hR hz1 hz2 hlo hL)
    · cases hs
  | ishl  =>
    dsimp only [m_ins] at hs
    split at hs
    · cases hs
      have hd := hd0 rfl
      intro p e s m args below meth c H locs ls hX hR hz1 hz2 hlo hL
      exact lv_ishl hX.1 hX.2.1 hd (hJ p e s m args below meth c H locs ls hX hR hz1 hz2 hlo hL)
    · cases hs
  | ishr  =>
    dsimp only [m_ins] at hs
    split at hs
    · cases hs
      have hd := hd0 rfl
      intro p e s m args below meth c H locs ls hX hR hz1 hz2 hlo hL
      exact lv_ishr hX.1 hX.2.1 hd (hJ p e s m args below meth c H locs ls hX hR hz1 hz2 hlo hL)
    · cases hs
  | iushr  =>
    dsimp only [m_ins] at hs
    split at hs
    · cases hs
      have hd := hd0 rfl
      intro p e s m args below meth c H locs ls hX hR hz1 hz2 hlo hL
      exact lv_iushr hX.1 hX.2.1 hd rfl (hJ p e s m args below meth c H locs ls hX hR hz1 hz2 hlo hL)
    · cases hs
  | ineg  =>
    dsimp only [m_ins] at hs
    split at hs
    · cases hs
      have hd := hd0 rfl
      intro p e s m args below meth c H locs ls hX hR hz1 hz2 hlo hL
      exact lv_ineg hX.1 hX.2.1 hd (hJ p e s m args below meth c H locs ls hX hR hz1 hz2 hlo hL)
    · cases hs
  | ladd  =>
    dsimp only [m_ins] at hs
    split at hs
    · cases hs
      have hd := hd0 rfl
      intro p e s m args below meth c H locs ls hX hR hz1 hz2 hlo hL
      exact lv_ladd hX.1 hX.2.1 hd (hJ p e s m args below meth c H locs ls hX hR hz1 hz2 hlo hL)
    · cases hs
  | lsub  =>
    dsimp only [m_ins] at hs
    split at hs
    · cases hs
      have hd := hd0 rfl
      intro p e s m args below meth c H locs ls hX hR hz1 hz2 hlo hL
      exact lv_lsub hX.1 hX.2.1 hd (hJ p e s m args below meth c H locs ls hX hR hz1 hz2 hlo hL)
    · cases hs
  | land  =>
    dsimp only [m_ins] at hs
    split at hs
    · cases hs
      have hd := hd0 rfl
      intro p e s m args below meth c H locs ls hX hR hz1 hz2 hlo hL
      exact lv_land hX.1 hX.2.1 hd (hJ p e s m args below meth c H locs ls hX hR hz1 hz2 hlo hL)
    · cases hs
  | lor  =>
    dsimp only [m_ins] at hs
    split at hs
    · cases hs
      have hd := hd0 rfl
      intro p e s m args below meth c H locs ls hX hR hz1 hz2 hlo hL
      exact lv_lor hX.1 hX.2.1 hd (hJ p e s m args below meth c H locs ls hX hR hz1 hz2 hlo hL)
    · cases hs
  | lxor  =>
    dsimp only [m_ins] at hs
    split at hs
    · cases hs
      have hd := hd0 rfl
      intro p e s m args below meth c H locs ls hX hR hz1 hz2 hlo hL
      exact lv_lxor hX.1 hX.2.1 hd (hJ p e s m args below meth c H locs ls hX hR hz1 hz2 hlo hL)
    · cases hs
  | lneg  =>
    dsimp only [m_ins] at hs
    split at hs
    · cases hs
      have hd := hd0 rfl
      intro p e s m args below meth c H locs ls hX hR hz1 hz2 hlo hL
      exact lv_lneg hX.1 hX.2.1 hd (hJ p e s m args below meth c H locs ls hX hR hz1 hz2 hlo hL)
    · cases hs
  | lshl  =>
    dsimp only [m_ins] at hs
    split at hs
    · cases hs
      have hd := hd0 rfl
      intro p e s m args below meth c H locs ls hX hR hz1 hz2 hlo hL
      exact lv_lshl hX.1 hX.2.1 hd rfl (hJ p e s m args below meth c H locs ls hX hR hz1 hz2 hlo hL)
    · cases hs
  | lushr  =>
    dsimp only [m_ins] at hs
    split at hs
    · cases hs
      have hd := hd0 rfl
      intro p e s m args below meth c H locs ls hX hR hz1 hz2 hlo hL
      exact lv_lushr hX.1 hX.2.1 hd rfl (hJ p e s m args below meth c H locs ls hX hR hz1 hz2 hlo hL)
    · cases hs
  | i2l  =>
    dsimp only [m_ins] at hs
    split at hs
    · cases hs
      have hd := hd0 rfl
      intro p e s m args below meth c H locs ls hX hR hz1 hz2 hlo hL
      exact lv_i2l hX.1 hX.2.1 hd rfl (hJ p e s m args below meth c H locs ls hX hR hz1 hz2 hlo hL)
    · cases hs
  | l2i  =>
    dsimp only [m_ins] at hs
    split at hs
    · cases hs
      have hd := hd0 rfl
      intro p e s m args below meth c H locs ls hX hR hz1 hz2 hlo hL
      exact lv_l2i hX.1 hX.2.1 hd rfl (hJ p e s m args below meth c H locs ls hX hR hz1 hz2 hlo hL)
    · cases hs
  | i2b  =>
    dsimp only [m_ins] at hs
    split at hs
    · cases hs
      have hd := hd0 rfl
      intro p e s m args below meth c H locs ls hX hR hz1 hz2 hlo hL
      exact lv_i2b hX.1 hX.2.1 hd rfl (hJ p e s m args below meth c H locs ls hX hR hz1 hz2 hlo hL)
    · cases hs
  | lcmp  =>
    dsimp only [m_ins] at hs
    split at hs
    · cases hs
      have hd := hd0 rfl
      intro p e s m args below meth c H locs ls hX hR hz1 hz2 hlo hL
      exact W.lcmp hX.1 hX.2.1 hd (hJ p e s m args below meth c H locs ls hX hR hz1 hz2 hlo hL)
    · cases hs
  | idiv =>
    dsimp only [m_ins] at hs
    split at hs
    · cases hs
      have hd := hd0 rfl
      intro p e s m args below meth c H locs ls hX hR hz1 hz2 hlo hL
      exact lv_idiv hX.1 hX.2.1 hd hC (hJ p e s m args below meth c H locs ls hX hR hz1 hz2 hlo hL)
    · cases hs
  | irem =>
    dsimp only [m_ins] at hs
    split at hs
    · cases hs
      have hd := hd0 rfl
      intro p e s m args below meth c H locs ls hX hR hz1 hz2 hlo hL
      exact lv_irem hX.1 hX.2.1 hd hC (hJ p e s m args below meth c H locs ls hX hR hz1 hz2 hlo hL)
    · cases hs
  | dup =>
    dsimp only [m_ins] at hs
    split at hs
    · rename_i v r
      cases hv : (v.category == 1) with
      | false => rw [hv] at hs; cases hs
      | true =>
        rw [hv] at hs
        cases hs
        have hv1 : (m_v E v).category = 1 := by rw [m_cat]; simpa using hv
        have hd := hd0 rfl
        intro p e s m args below meth c H locs ls hX hR hz1 hz2 hlo hL
        exact lv_dup hX.1 hX.2.1 hd hv1 (hJ p e s m args below meth c H locs ls hX hR hz1 hz2 hlo hL)
    · cases hs
  | pop =>
    dsimp only [m_ins] at hs
    split at hs
    · rename_i v r
      cases hv : (v.category == 1) with
      | false => rw [hv] at hs; cases hs
      | true =>
        rw [hv] at hs
        cases hs
        have hv1 : (m_v E v).category = 1 := by rw [m_cat]; simpa using hv
        have hd := hd0 rfl
        intro p e s m args below meth c H locs ls hX hR hz1 hz2 hlo hL
        exact lv_pop hX.1 hX.2.1 hd hv1 (hJ p e s m args below meth c H locs ls hX hR hz1 hz2 hlo hL)
    · cases hs
  | dup2 =>
    dsimp only [m_ins] at hs
    split at hs
    · cases hs
      have hd := hd0 rfl
      intro p e s m args below meth c H locs ls hX hR hz1 hz2 hlo hL
      exact lv_dup2_11 hX.1 hX.2.1 hd rfl rfl (hJ p e s m args below meth c H locs ls hX hR hz1 hz2 hlo hL)
    · cases hs
  | iinc i n =>
    have hd := hd0 rfl
    have hv := hc0 _ _ rfl
    dsimp only [m_ins] at hs
    split at hs
    · rename_i x hx
      have key : ∀ w : Int32, Int32.ofInt n = w → ∀ L2, m_sto L i (.int (x + w)) = some L2 → m_J l EX E M d mc ms PR PX tg kc ks (pc + 3, L2, st, h) → m_J l EX E M d mc ms PR PX tg kc ks (pc, L, st, h) := by
        intro w hw L2 hq hJ
        intro p e s m args below meth c H locs ls hX hR hz1 hz2 hlo hL
        obtain ⟨k, hk⟩ := List.getElem?_of_mem (m_al_mem (E := E) (q := (i, Value.int x)).mpr ⟨.int x, hx, rfl⟩)
        exact lv_iinc hX.1 hX.2.1 hd (m_al_has hL) hk (by rw [hw]) (by rw [← hL.2.2.1]; exact m_sto_lt hq) rfl (fun ls2 h2 => hJ p e s m args below meth c H locs ls2 hX hR hz1 hz2 hlo (m_sto_L hL.2.2.1 hq h2))
      cases n with
      | ofNat n9 =>
        dsimp only at hs
        split at hs
        · rename_i hq
          cases hs
          have hv2 : decide (0 ≤ (Int.ofNat n9)) = true := by simp
          rw [hv2] at hv
          exact key _ hv _ hq hJ
        · cases hs
      | negSucc n9 =>
        dsimp only at hs
        split at hs
        · rename_i hq
          cases hs
          have hv2 : decide (0 ≤ (Int.negSucc n9)) = false := by simp
          rw [hv2] at hv
          exact key _ hv _ hq hJ
        · cases hs
    · cases hs
  | goto o =>
    cases hs
    have hd := hd0 rfl
    intro p e s m args below meth c H locs ls hX hR hz1 hz2 hlo hL
    exact lv_goto hX.1 hX.2.1 hd (ht0 _ rfl) (hJ p e s m args below meth c H locs ls hX hR hz1 hz2 hlo hL)
  | if_icmp q o =>
    dsimp only [m_ins] at hs
    split at hs
    · cases q with
      | eq =>
        cases hs
        have hd := hd0 rfl
        intro p e s m args below meth c H locs ls hX hR hz1 hz2 hlo hL
        exact lv_icmp_eq hX.1 hX.2.1 hd (ht0 _ rfl) (fun hc => m_eqS hJ (if_pos hc) p e s m args below meth c H locs ls hX hR hz1 hz2 hlo hL) (fun hc => m_eqS hJ (if_neg hc) p e s m args below meth c H locs ls hX hR hz1 hz2 hlo hL)
      | ne =>
        cases hs
        have hd := hd0 rfl
        intro p e s m args below meth c H locs ls hX hR hz1 hz2 hlo hL
        exact lv_icmp_ne hX.1 hX.2.1 hd (ht0 _ rfl) (fun hc => m_eqS hJ (if_pos hc) p e s m args below meth c H locs ls hX hR hz1 hz2 hlo hL) (fun hc => m_eqS hJ (if_neg (fun hn => hn hc)) p e s m args below meth c H locs ls hX hR hz1 hz2 hlo hL)
      | lt =>
        cases hs
        have hd := hd0 rfl
        intro p e s m args below meth c H locs ls hX hR hz1 hz2 hlo hL
        exact lv_icmp_lt hX.1 hX.2.1 hd (ht0 _ rfl) (fun hc => m_eqS hJ (if_pos hc) p e s m args below meth c H locs ls hX hR hz1 hz2 hlo hL) (fun hc => m_eqS hJ (if_neg hc) p e s m args below meth c H locs ls hX hR hz1 hz2 hlo hL)
      | ge =>
        cases hs
        have hd := hd0 rfl
        intro p e s m args below meth c H locs ls hX hR hz1 hz2 hlo hL
        exact lv_icmp_ge hX.1 hX.2.1 hd (ht0 _ rfl) (fun hc => m_eqS hJ (if_pos hc) p e s m args below meth c H locs ls hX hR hz1 hz2 hlo hL) (fun hc => m_eqS hJ (if_neg hc) p e s m args below meth c H locs ls hX hR hz1 hz2 hlo hL)
      | gt =>
        cases hs
        have hd := hd0 rfl
        intro p e s m args below meth c H locs ls hX hR hz1 hz2 hlo hL
        exact lv_icmp_gt hX.1 hX.2.1 hd (ht0 _ rfl) (fun hc => m_eqS hJ (if_pos hc) p e s m args below meth c H locs ls hX hR hz1 hz2 hlo hL) (fun hc => m_eqS hJ (if_neg hc) p e s m args below meth c H locs ls hX hR hz1 hz2 hlo hL)
      | le =>
        cases hs
        have hd := hd0 rfl
        intro p e s m args below meth c H locs ls hX hR hz1 hz2 hlo hL
        exact lv_icmp_le hX.1 hX.2.1 hd (ht0 _ rfl) (fun hc => m_eqS hJ (if_pos hc) p e s m args below meth c H locs ls hX hR hz1 hz2 hlo hL) (fun hc => m_eqS hJ (if_neg hc) p e s m args below meth c H locs ls hX hR hz1 hz2 hlo hL)
    · cases hs
  | ifCond q o =>
    dsimp only [m_ins] at hs
    split at hs
    · cases q with
      | eq =>
        cases hs
        have hd := hd0 rfl
        intro p e s m args below meth c H locs ls hX hR hz1 hz2 hlo hL
        exact lv_if_eq hX.1 hX.2.1 hd (ht0 _ rfl) (fun hc => m_eqS hJ (if_pos hc) p e s m args below meth c H locs ls hX hR hz1 hz2 hlo hL) (fun hc => m_eqS hJ (if_neg hc) p e s m args below meth c H locs ls hX hR hz1 hz2 hlo hL)
      | ne =>
        cases hs
        have hd := hd0 rfl
        intro p e s m args below meth c H locs ls hX hR hz1 hz2 hlo hL
        exact lv_if_ne hX.1 hX.2.1 hd (ht0 _ rfl) (fun hc => m_eqS hJ (if_pos hc) p e s m args below meth c H locs ls hX hR hz1 hz2 hlo hL) (fun hc => m_eqS hJ (if_neg (fun hn => hn hc)) p e s m args below meth c H locs ls hX hR hz1 hz2 hlo hL)
      | lt =>
        cases hs
        have hd := hd0 rfl
        intro p e s m args below meth c H locs ls hX hR hz1 hz2 hlo hL
        exact lv_if_lt hX.1 hX.2.1 hd (ht0 _ rfl) (fun hc => m_eqS hJ (if_pos hc) p e s m args below meth c H locs ls hX hR hz1 hz2 hlo hL) (fun hc => m_eqS hJ (if_neg hc) p e s m args below meth c H locs ls hX hR hz1 hz2 hlo hL)
      | ge =>
        cases hs
        have hd := hd0 rfl
        intro p e s m args below meth c H locs ls hX hR hz1 hz2 hlo hL
        exact lv_if_ge hX.1 hX.2.1 hd (ht0 _ rfl) (fun hc => m_eqS hJ (if_pos hc) p e s m args below meth c H locs ls hX hR hz1 hz2 hlo hL) (fun hc => m_eqS hJ (if_neg hc) p e s m args below meth c H locs ls hX hR hz1 hz2 hlo hL)
      | gt =>
        cases hs
        have hd := hd0 rfl
        intro p e s m args below meth c H locs ls hX hR hz1 hz2 hlo hL
        exact lv_if_gt hX.1 hX.2.1 hd (ht0 _ rfl) (fun hc => m_eqS hJ (if_pos hc) p e s m args below meth c H locs ls hX hR hz1 hz2 hlo hL) (fun hc => m_eqS hJ (if_neg hc) p e s m args below meth c H locs ls hX hR hz1 hz2 hlo hL)
      | le =>
        cases hs
        have hd := hd0 rfl
        intro p e s m args below meth c H locs ls hX hR hz1 hz2 hlo hL
        exact lv_if_le hX.1 hX.2.1 hd (ht0 _ rfl) (fun hc => m_eqS hJ (if_pos hc) p e s m args below meth c H locs ls hX hR hz1 hz2 hlo hL) (fun hc => m_eqS hJ (if_neg hc) p e s m args below meth c H locs ls hX hR hz1 hz2 hlo hL)
    · cases hs
  | tableswitch df lo hi offs =>
    dsimp only [m_ins] at hs
    split at hs
    · rename_i x r
      cases hs
      intro p e s m args below meth c H locs ls hX hR hz1 hz2 hlo hL
      have hw := hJ p e s m args below meth c H locs ls hX hR hz1 hz2 hlo hL
      have hp : (pc : Int) + m_off df lo hi offs x = ((((pc : Int) + m_off df lo hi offs x).toNat : Nat) : Int) := (Int.toNat_of_nonneg hC.1).symm
      by_cases hc : x.toInt < lo ∨ hi < x.toInt
      · refine lv_tableOut hX.1 hX.2.1 hd1 hc ?_ hw
        rw [← hp]; unfold m_off; rw [if_pos hc]
      · have hi2 := hC.2 hc
        refine lv_tableIn hX.1 hX.2.1 hd1 (fun q => hc (Or.inl q)) (fun q => hc (Or.inr q)) (off := offs.getD (x.toInt - lo).toNat 0) ?_ ?_ hw
        · simp [Array.getD, hi2]
        · rw [← hp]; unfold m_off; rw [if_neg hc]
    · cases hs
  | lookupswitch df ps =>
    dsimp only [m_ins] at hs
    split at hs
    · rename_i x r
      cases hs
      intro p e s m args below meth c H locs ls hX hR hz1 hz2 hlo hL
      exact lv_lookup hX.1 hX.2.1 hd1 hC.2 rfl (Int.toNat_of_nonneg hC.1).symm (hJ p e s m args below meth c H locs ls hX hR hz1 hz2 hlo hL)
    · cases hs
  | ldc i =>
    dsimp only [m_ins] at hs
    split at hs
    · rename_i v hv
      cases hs
      have hd := hd0 rfl
      have hw := m_ct_spec hv
      dsimp only [m_CTw] at hw
      rw [m_own hM] at hw
      intro p e s m args below meth c H locs ls hX hR hz1 hz2 hlo hL
      exact lv_ldc hX.1 hX.2.1 hX.2.2.2.2.1 (hX.2.2.2.2.2.1 _ hw) hd (hJ p e s m args below meth c H locs ls hX hR hz1 hz2 hlo hL)
    · cases hs
  | ldc_w i =>
    dsimp only [m_ins] at hs
    split at hs
    · rename_i v hv
      cases hs
      have hd := hd0 rfl
      have hw := m_ct_spec hv
      dsimp only [m_CTw] at hw
      rw [m_own hM] at hw
      intro p e s m args below meth c H locs ls hX hR hz1 hz2 hlo hL
      exact lv_ldcw hX.1 hX.2.1 hX.2.2.2.2.1 (hX.2.2.2.2.2.1 _ hw) hd (hJ p e s m args below meth c H locs ls hX hR hz1 hz2 hlo hL)
    · cases hs
  | ldc2_w i =>
    dsimp only [m_ins] at hs
    split at hs
    · rename_i v hv
      cases hs
      have hd := hd0 rfl
      have hw := m_ct_spec hv
      dsimp only [m_CTw] at hw
      rw [m_own hM] at hw
      intro p e s m args below meth c H locs ls hX hR hz1 hz2 hlo hL
      exact lv_ldc2 hX.1 hX.2.1 hX.2.2.2.2.1 (hX.2.2.2.2.2.1 _ hw) hd (hJ p e s m args below meth c H locs ls hX hR hz1 hz2 hlo hL)
    · cases hs
  | getfield i =>
    dsimp only [m_ins] at hs
    split at hs
    · rename_i a r
      split at hs
      · rename_i c0 k n hft
        split at hs
        · rename_i c2 fs hh
          cases hc : (c0 == c2) with
          | false => rw [hc] at hs; cases hs
          | true =>
            rw [hc] at hs
            have hc2 : c0 = c2 := by simpa using hc
            subst hc2
            dsimp only [cond] at hs
            split at hs
            · rename_i v hv
              cases hs
              have hd := hd0 rfl
              obtain ⟨q, hq, hkq, hw⟩ := m_ft_spec hft
              obtain ⟨C, TT, N⟩ := q
              intro p e s m args below meth c H locs ls hX hR hz1 hz2 hlo hL
              have hw2 := hX.2.2.2.2.2.1 _ hw
              have hg := m_W_get (E := E) hh
              unfold m_FTw at hw2
              dsimp only at hw2
              rw [m_own hM] at hw2
              have hv2 : (fs.map (m_v E))[k]? = some (m_v E v) := by rw [List.getElem?_map, hv]; rfl
              by_cases hn : n = 0
              · rw [if_pos hn] at hw2
                exact va_get hX.1 hX.2.1 hX.2.2.2.2.2.1 (m_cl_spec hq).2.2 hX.2.2.2.2.1 hX.2.2.2.2.2.2.1 hR.1 a hg hq k hkq hw2 (fun _ h9 => h9) hv2 hd (hJ p e s m args below meth c H locs ls hX hR hz1 hz2 hlo hL)
              · rw [if_neg hn] at hw2
                exact va_getN hX.1 hX.2.1 hX.2.2.2.2.2.1 (m_cl_spec hq).2.2 hX.2.2.2.2.1 hX.2.2.2.2.2.2.1 hR.1 a hg hq k hkq hw2 (fun _ h9 => h9) hv2 hd (hJ p e s m args below meth c H locs ls hX hR hz1 hz2 hlo hL)
            · cases hs
        · cases hs
      · cases hs
    · cases hs
  | putfield i =>
    dsimp only [m_ins] at hs
    split at hs
    · rename_i v a r
      split at hs
      · rename_i c0 k n hft
        split at hs
        · rename_i c2 fs hh
          cases hc : ((c0 == c2) && Nat.blt k fs.length && m_fit (m_tyf c0 k) v && (!(m_fin c0 k) || (decide (M.1.name = "<init>") && (n == 0) && (m_owns.getD M.2.2.2.2.2.1 "" == ((m_cl.getD c0 (RX0, TX0, 2)).2.1 k).1)))) with
          | false => rw [hc] at hs; cases hs
          | true =>
            rw [hc] at hs
            cases hs
            simp only [Bool.and_eq_true, Bool.or_eq_true, Bool.not_eq_true', beq_iff_eq, decide_eq_true_eq] at hc
            obtain ⟨⟨⟨hc2, hkl⟩, hfit⟩, hfin⟩ := hc
            subst hc2
            have hkl2 : k < fs.length := by simpa [Nat.blt_eq] using hkl
            have hd := hd0 rfl
            obtain ⟨q, hq, hkq, hw⟩ := m_ft_spec hft
            obtain ⟨C, TT, N⟩ := q
            have hgd : m_cl.getD c0 (RX0, TX0, 2) = (C, TT, N) := by rw [List.getD_eq_getElem?_getD, hq]; rfl
            intro p e s m args below meth c H locs ls hX hR hz1 hz2 hlo hL
            have hw2 := hX.2.2.2.2.2.1 _ hw
            have hg := m_W_get (E := E) hh
            unfold m_FTw at hw2
            dsimp only at hw2
            rw [m_own hM] at hw2
            obtain ⟨hty, hnm, hin⟩ := m_cl_spec hq
            have hS : va_S (fun q => E.1 ≤ q) E.2.2.2.2 H locs := ⟨by rw [hR.2.2.2.2.2]; exact Nat.le_trans (Nat.le_add_right _ _) hR.2.1, fun q h1 _ => hR.2.2.2.1 q (by rw [← hR.2.2.2.2.2]; exact h1), hlo⟩
            obtain ⟨hnar, hft2⟩ := m_fit_ok E hfit
            have hlen : k < (fs.map (m_v E)).length := by simpa using hkl2
            have kk : ∀ (H1 : Heap) (locs1 : List Loc), va_P E.2.2.1 m_cl ((m_W E h).set a (m_ad E a, .inr (c0, (fs.map (m_v E)).set k (m_v E v)))) H1 → va_D (fun q => E.1 ≤ q) ((m_W E h).set a (m_ad E a, .inr (c0, (fs.map (m_v E)).set k (m_v E v)))) → va_S (fun q => E.1 ≤ q) E.2.2.2.2 H1 locs1 →
                W p l e (m_rm d mc ms) s m args below meth c H1 locs1 kc ks (vx_MQ below (m_Qc E PR) (m_XC E PX) args s mc ms (fun q => E.1 ≤ q)) (F0 m (pc + 3) ls (r.map (m_v E))) := by
              intro H1 locs1 hP1 _ hS1
              have e9 : (Sum.inr (c0, (fs.map (m_v E)).set k (m_v E v)) : va_E) = m_c E (.inr (c0, fs.set k v)) := by simp [m_c, List.map_set]
              rw [e9, m_W_set] at hP1
              exact m_back hz1 hz2 hR hP1 (by simp) hS1 (fun H9 hR9 hs9 hz9 => hJ p e s m args below meth c H9 locs1 ls hX hR9 hs9 hz9 hS1.2.2 hL)
            by_cases hfb : (TT k).2.2.2 = true
            · have hfin2 : m_fin c0 k = true := by unfold m_fin; rw [hgd]; exact hfb
              rcases hfin with hf | ⟨⟨hini, hn0⟩, hown⟩
              · rw [hfin2] at hf; cases hf
              · rw [hgd] at hown
                rw [if_pos hn0] at hw2
                exact va_putF hX.1 hX.2.1 hX.2.2.2.2.2.1 hin (m_tyf c0) hty hnm hX.2.2.2.2.1 hX.2.2.2.2.2.2.1 hR.1 (m_D hR.2.2.2.2.1) hS a hg hq k hkq hw2 (fun _ h9 => h9) hfb (by rw [hX.2.2.2.2.2.2.2.2.1]; exact hini) (by rw [← m_own hM]; exact hown.symm) (hty k hkq) hnar hft2 hlen hd kk
            · have hfb2 : (TT k).2.2.2 = false := by simpa using hfb
              by_cases hn : n = 0
              · rw [if_pos hn] at hw2
                exact va_put hX.1 hX.2.1 hX.2.2.2.2.2.1 hin (m_tyf c0) hty hnm hX.2.2.2.2.1 hX.2.2.2.2.2.2.1 hR.1 (m_D hR.2.2.2.2.1) hS a hg hq k hkq hw2 (fun _ h9 => h9) hfb2 (hty k hkq) hnar hft2 hlen hd kk
              · rw [if_neg hn] at hw2
                exact va_putN hX.1 hX.2.1 hX.2.2.2.2.2.1 hin (m_tyf c0) hty hnm hX.2.2.2.2.1 hX.2.2.2.2.2.2.1 hR.1 (m_D hR.2.2.2.2.1) hS a hg hq k hkq hw2 (fun _ h9 => h9) hfb2 (hty k hkq) hnar hft2 hlen hd kk
        · cases hs
      · cases hs
    · cases hs
  | iaload =>
    dsimp only [m_ins] at hs
    split at hs
    · rename_i i a r
      split at hs
      · rename_i n f hh
        cases hs
        have hd := hd0 rfl
        intro p e s m args below meth c H locs ls hX hR hz1 hz2 hlo hL
        have hg := m_W_get (E := E) hh
        exact va_iald hX.1 hX.2.1 hX.2.2.2.2.2.2.1 hR.1 a 0 hg (m_tys_get E rfl) hC hd (hJ p e s m args below meth c H locs ls hX hR hz1 hz2 hlo hL)
      · cases hs
    · cases hs
  | laload =>
    dsimp only [m_ins] at hs
    split at hs
    · rename_i i a r
      split at hs
      · rename_i n f hh
        cases hs
        have hd := hd0 rfl
        intro p e s m args below meth c H locs ls hX hR hz1 hz2 hlo hL
        have hg := m_W_get (E := E) hh
        exact va_lald hX.1 hX.2.1 hX.2.2.2.2.2.2.1 hR.1 a 1 hg (m_tys_get E rfl) hC hd (hJ p e s m args below meth c H locs ls hX hR hz1 hz2 hlo hL)
      · cases hs
    · cases hs
  | baload =>
    dsimp only [m_ins] at hs
    split at hs
    · rename_i i a r
      split at hs
      · rename_i n f hh
        cases hs
        have hd := hd0 rfl
        intro p e s m args below meth c H locs ls hX hR hz1 hz2 hlo hL
        have hg := m_W_get (E := E) hh
        exact va_bald hX.1 hX.2.1 hX.2.2.2.2.2.2.1 hR.1 a 2 hg (m_tys_get E rfl) hC hd (hJ p e s m args below meth c H locs ls hX hR hz1 hz2 hlo hL)
      · rename_i n f hh
        cases hs
        have hd := hd0 rfl
        intro p e s m args below meth c H locs ls hX hR hz1 hz2 hlo hL
        have hg := m_W_get (E := E) hh
        exact va_zald hX.1 hX.2.1 hX.2.2.2.2.2.2.1 hR.1 a 3 hg (m_tys_get E rfl) hC hd (hJ p e s m args below meth c H locs ls hX hR hz1 hz2 hlo hL)
      · cases hs
    · cases hs
  | iastore =>
    dsimp only [m_ins] at hs
    split at hs
    · rename_i x i a r
      split at hs
      · rename_i n f hh
        cases hs
        have hd := hd0 rfl
        intro p e s m args below meth c H locs ls hX hR hz1 hz2 hlo hL
        have hg := m_W_get (E := E) hh
        have hS : va_S (fun q => E.1 ≤ q) E.2.2.2.2 H locs := ⟨by rw [hR.2.2.2.2.2]; exact Nat.le_trans (Nat.le_add_right _ _) hR.2.1, fun q h1 _ => hR.2.2.2.1 q (by rw [← hR.2.2.2.2.2]; exact h1), hlo⟩
        refine va_iast hX.1 hX.2.1 hX.2.2.2.2.2.2.1 hR.1 (m_D hR.2.2.2.2.1) hS a 0 hg (m_tys_get E rfl) hC hd (fun H1 locs1 hP1 _ hS1 => ?_)
        have hP1 : va_P E.2.2.1 m_cl ((m_W E h).set a (m_ad E a, m_c E (.inl (0, n, .inl (upd f i.toNatClampNeg x))))) H1 := hP1
        rw [m_W_set] at hP1
        exact m_back hz1 hz2 hR hP1 (by simp) hS1 (fun H9 hR9 hs9 hz9 => hJ p e s m args below meth c H9 locs1 ls hX hR9 hs9 hz9 hS1.2.2 hL)
      · cases hs
    · cases hs
  | lastore =>
    dsimp only [m_ins] at hs
    split at hs
    · rename_i x i a r
      split at hs
      · rename_i n f hh
        cases hs
        have hd := hd0 rfl
        intro p e s m args below meth c H locs ls hX hR hz1 hz2 hlo hL
        have hg := m_W_get (E := E) hh
        have hS : va_S (fun q => E.1 ≤ q) E.2.2.2.2 H locs := ⟨by rw [hR.2.2.2.2.2]; exact Nat.le_trans (Nat.le_add_right _ _) hR.2.1, fun q h1 _ => hR.2.2.2.1 q (by rw [← hR.2.2.2.2.2]; exact h1), hlo⟩
        refine va_last hX.1 hX.2.1 hX.2.2.2.2.2.2.1 hR.1 (m_D hR.2.2.2.2.1) hS a 1 hg (m_tys_get E rfl) hC hd (fun H1 locs1 hP1 _ hS1 => ?_)
        have hP1 : va_P E.2.2.1 m_cl ((m_W E h).set a (m_ad E a, m_c E (.inl (1, n, .inr (.inl (vp_updL f i.toNatClampNeg x)))))) H1 := hP1
        rw [m_W_set] at hP1
        exact m_back hz1 hz2 hR hP1 (by simp) hS1 (fun H9 hR9 hs9 hz9 => hJ p e s m args below meth c H9 locs1 ls hX hR9 hs9 hz9 hS1.2.2 hL)
      · cases hs
    · cases hs
  | bastore =>
    dsimp only [m_ins] at hs
    split at hs
    · rename_i x i a r
      split at hs
      · rename_i n f hh
        cases hs
        have hd := hd0 rfl
        intro p e s m args below meth c H locs ls hX hR hz1 hz2 hlo hL
        have hg := m_W_get (E := E) hh
        have hS : va_S (fun q => E.1 ≤ q) E.2.2.2.2 H locs := ⟨by rw [hR.2.2.2.2.2]; exact Nat.le_trans (Nat.le_add_right _ _) hR.2.1, fun q h1 _ => hR.2.2.2.1 q (by rw [← hR.2.2.2.2.2]; exact h1), hlo⟩
        refine va_bast hX.1 hX.2.1 hX.2.2.2.2.2.2.1 hR.1 (m_D hR.2.2.2.2.1) hS a 2 hg (m_tys_get E rfl) hC hd (fun H1 locs1 hP1 _ hS1 => ?_)
        have hP1 : va_P E.2.2.1 m_cl ((m_W E h).set a (m_ad E a, m_c E (.inl (2, n, .inl (upd f i.toNatClampNeg (vp_nar .byte x)))))) H1 := hP1
        rw [m_W_set] at hP1
        exact m_back hz1 hz2 hR hP1 (by simp) hS1 (fun H9 hR9 hs9 hz9 => hJ p e s m args below meth c H9 locs1 ls hX hR9 hs9 hz9 hS1.2.2 hL)
      · rename_i n f hh
        cases hs
        have hd := hd0 rfl
        intro p e s m args below meth c H locs ls hX hR hz1 hz2 hlo hL
        have hg := m_W_get (E := E) hh
        have hS : va_S (fun q => E.1 ≤ q) E.2.2.2.2 H locs := ⟨by rw [hR.2.2.2.2.2]; exact Nat.le_trans (Nat.le_add_right _ _) hR.2.1, fun q h1 _ => hR.2.2.2.1 q (by rw [← hR.2.2.2.2.2]; exact h1), hlo⟩
        refine va_zast hX.1 hX.2.1 hX.2.2.2.2.2.2.1 hR.1 (m_D hR.2.2.2.2.1) hS a 3 hg (m_tys_get E rfl) hC hd (fun H1 locs1 hP1 _ hS1 => ?_)
        have hP1 : va_P E.2.2.1 m_cl ((m_W E h).set a (m_ad E a, m_c E (.inl (3, n, .inl (upd f i.toNatClampNeg (vp_nar .boolean x)))))) H1 := hP1
        rw [m_W_set] at hP1
        exact m_back hz1 hz2 hR hP1 (by simp) hS1 (fun H9 hR9 hs9 hz9 => hJ p e s m args below meth c H9 locs1 ls hX hR9 hs9 hz9 hS1.2.2 hL)
      · cases hs
    · cases hs
  | aaload =>
    dsimp only [m_ins] at hs
    split at hs
    · rename_i i a r
      split at hs
      · rename_i t n f hh
        cases hc : (Nat.ble 4 t && Nat.ble t 6) with
        | false => rw [hc] at hs; cases hs
        | true =>
          rw [hc] at hs
          cases hs
          simp only [Bool.and_eq_true, Nat.ble_eq] at hc
          have hd := hd0 rfl
          intro p e s m args below meth c H locs ls hX hR hz1 hz2 hlo hL
          have hg := m_W_get (E := E) hh
          have hw := hJ p e s m args below meth c H locs ls hX hR hz1 hz2 hlo hL
          have ev : m_v E (m_rf (f i.toNatClampNeg)) = va_rf ((f i.toNatClampNeg).map (m_ad E)) := by cases f i.toNatClampNeg <;> rfl
          have hw : W p l e (m_rm d mc ms) s m args below meth c H locs kc ks (vx_MQ below (m_Qc E PR) (m_XC E PX) args s mc ms (fun q => E.1 ≤ q)) (F0 m (pc + 1) ls (va_rf ((f i.toNatClampNeg).map (m_ad E)) :: r.map (m_v E))) := by rw [← ev]; exact hw
          have hK := hX.2.2.2.2.2.2.1
          rcases (show ∀ z : Nat, 4 ≤ z ∧ z ≤ 6 → z = 4 ∨ z = 5 ∨ z = 6 by omega) _ hc with rfl | rfl | rfl
          · exact va_aldq hX.1 hX.2.1 hK hR.1 a 4 hg (m_tys_get E rfl) hC hd hw
          · exact va_aldq hX.1 hX.2.1 hK hR.1 a 5 hg (m_tys_get E rfl) hC hd hw
          · have hlt : i.toNatClampNeg < n := Nat.not_le.mp fun q => hC (Or.inr q)
            exact W.aald (v := va_rf ((f i.toNatClampNeg).map (m_ad E))) (ty := .array .long) hX.1 hX.2.1 (hR.1 a _ hg) ((hK.2 6 _ (m_tys_get E rfl)).1 n (fun j => va_rf ((f j).map (m_ad E)))) rfl (fun q => by cases q) (by show ¬ (i < 0 ∨ (arrV _ _ _).slots.size ≤ _); rw [arrV_size]; exact hC) (by show (arrV _ _ _).slots[_]? = _; rw [arrV_read _ _ hlt]) rfl rfl hd hw
      · cases hs
    · cases hs
  | aastore =>
    dsimp only [m_ins] at hs
    split at hs
    · rename_i b i a r
      split at hs
      · rename_i t n f c0 vs hh hb9
        cases hc : ((t == 4 && c0 == 2) || (t == 5 && c0 == 6)) with
        | false => rw [hc] at hs; cases hs
        | true =>
          rw [hc] at hs
          cases hs
          simp only [Bool.and_eq_true, Bool.or_eq_true, beq_iff_eq] at hc
          have hd := hd0 rfl
          intro p e s m args below meth c H locs ls hX hR hz1 hz2 hlo hL
          have hg := m_W_get (E := E) hh
          have hgb := m_W_get (E := E) hb9
          have hK := hX.2.2.2.2.2.2.1
          have hS : va_S (fun q => E.1 ≤ q) E.2.2.2.2 H locs := ⟨by rw [hR.2.2.2.2.2]; exact Nat.le_trans (Nat.le_add_right _ _) hR.2.1, fun q h1 _ => hR.2.2.2.1 q (by rw [← hR.2.2.2.2.2]; exact h1), hlo⟩
          have kk : ∀ (H1 : Heap) (locs1 : List Loc), va_P E.2.2.1 m_cl ((m_W E h).set a (m_ad E a, .inl (E.2.2.2.1 t, n, .inr (.inr (.inr (.inr (va_up (fun i => (f i).map (m_ad E)) i.toNatClampNeg (some (m_ad E b))))))))) H1 → va_D (fun q => E.1 ≤ q) ((m_W E h).set a (m_ad E a, .inl (E.2.2.2.1 t, n, .inr (.inr (.inr (.inr (va_up (fun i => (f i).map (m_ad E)) i.toNatClampNeg (some (m_ad E b))))))))) → va_S (fun q => E.1 ≤ q) E.2.2.2.2 H1 locs1 →
              W p l e (m_rm d mc ms) s m args below meth c H1 locs1 kc ks (vx_MQ below (m_Qc E PR) (m_XC E PX) args s mc ms (fun q => E.1 ≤ q)) (F0 m (pc + 1) ls (r.map (m_v E))) := by
            intro H1 locs1 hP1 _ hS1
            have e9 : (Sum.inl (E.2.2.2.1 t, n, .inr (.inr (.inr (.inr (va_up (fun i => (f i).map (m_ad E)) i.toNatClampNeg (some (m_ad E b))))))) : va_E) = m_c E (.inl (t, n, .inr (.inr (.inr (.inr (va_up f i.toNatClampNeg (some b))))))) := by
              simp only [m_c]
              rw [m_up]
            rw [e9, m_W_set] at hP1
            exact m_back hz1 hz2 hR hP1 (by simp) hS1 (fun H9 hR9 hs9 hz9 => hJ p e s m args below meth c H9 locs1 ls hX hR9 hs9 hz9 hS1.2.2 hL)
          rcases hc with ⟨rfl, rfl⟩ | ⟨rfl, rfl⟩
          · exact va_astq hX.1 hX.2.1 hK hR.1 (m_D hR.2.2.2.2.1) hS a 4 b 2 hg (m_tys_get E rfl) hgb rfl hC hd kk
          · exact va_astq hX.1 hX.2.1 hK hR.1 (m_D hR.2.2.2.2.1) hS a 5 b 6 hg (m_tys_get E rfl) hgb rfl hC hd kk
      · cases hs
    · cases hs
  | arraylength =>
    dsimp only [m_ins] at hs
    split at hs
    · rename_i a r
      split at hs
      · rename_i t n f hh
        cases hc : ((t == 0) || (t == 2)) with
        | false => rw [hc] at hs; cases hs
        | true =>
          rw [hc] at hs
          cases hs
          simp only [Bool.or_eq_true, beq_iff_eq] at hc
          have hd := hd0 rfl
          intro p e s m args below meth c H locs ls hX hR hz1 hz2 hlo hL
          have hg := m_W_get (E := E) hh
          have hw := hJ p e s m args below meth c H locs ls hX hR hz1 hz2 hlo hL
          rcases hc with rfl | rfl
          · exact va_alen hX.1 hX.2.1 hX.2.2.2.2.2.2.1 hR.1 a 0 hg (m_tys_get E rfl) rfl hd hw
          · exact va_alen hX.1 hX.2.1 hX.2.2.2.2.2.2.1 hR.1 a 2 hg (m_tys_get E rfl) rfl hd hw
      · cases hs
    · cases hs
  | _ => cases hs
end
section
/-! ENDS, CONTRACTS AND CALLS of the small machine -/
/-- a method's contract: with these arguments, over this heap -/
def m_Sp (l : Launch) (EX : State → Prop) (E : mE) (M : mM) (d mc ms : Nat) (as : List Value) (h : mH) (tg : Bool) (PR : Option Value → mH → Bool → Prop) (PX : String → mH → Prop) : Prop :=
  vx_Met l M.1 (m_ws M) (m_rm d mc ms) (va_Pc (as.map (m_v E)) (fun U => m_R E tg h U.heap ∧ va_K E.2.2.1 m_cl (m_tys E) U ∧ EX U)) (m_Qc E PR) (m_XC E PX) mc ms (fun q => E.1 ≤ q)
section
variable {l : Launch} {EX : State → Prop} {E : mE} {M : mM} {d mc ms : Nat} {PR : Option Value → mH → Bool → Prop} {PX : String → mH → Prop} {tg : Bool} {kc ks : Nat} {pc t : Nat} {L : List (Option Value)} {h : mH}
theorem m_J_iret (hM : m_okM M = true) (hf : (m_tb M).lookup pc = some (.ireturn, t)) {v : Int32} {ty : FieldType} (hr : M.2.2.2.1 = some ty) (hn : narrow ty (.int v) = .int v) (hc : kc ≤ mc) (hs : ks ≤ ms) (hp : PR (some (.int v)) h tg) : m_J l EX E M d mc ms PR PX tg kc ks (pc, L, [.int v], h) := by
  obtain ⟨n, hd1, hn1, -, -⟩ := m_dec hM hf
  have hd : decode M.2.1 pc = .ok (.ireturn, 1) := by rw [hd1, hn1 rfl]; rfl
  intro p e s m args below meth c H locs ls hX hR hz1 hz2 hlo hL
  refine W.widen (k := mc) (n := ms) hc hs (vx_ret ?_)
  exact W.zret hX.1 hX.2.1 (hX.2.2.1.trans hr) hn (fun t ht _ => ⟨⟨some (.int v), h, tg, rfl, hp, by rw [ht]; exact hR⟩, by rw [ht]; exact hz1⟩) hlo hd hX.2.2.2.2.2.2.2.1
theorem m_J_lret (hM : m_okM M = true) (hf : (m_tb M).lookup pc = some (.lreturn, t)) {v : Int64} (hr : M.2.2.2.1 = some .long) (hc : kc ≤ mc) (hs : ks ≤ ms) (hp : PR (some (.long v)) h tg) : m_J l EX E M d mc ms PR PX tg kc ks (pc, L, [.long v], h) := by
  obtain ⟨n, hd1, hn1, -, -⟩ := m_dec hM hf
  have hd : decode M.2.1 pc = .ok (.lreturn, 1) := by rw [hd1, hn1 rfl]; rfl
  intro p e s m args below meth c H locs ls hX hR hz1 hz2 hlo hL
  refine W.widen (k := mc) (n := ms) hc hs (vx_ret ?_)
  exact W.lret hX.1 hX.2.1 (hX.2.2.1.trans hr) (fun t ht _ => ⟨⟨some (.long v), h, tg, rfl, hp, by rw [ht]; exact hR⟩, by rw [ht]; exact hz1⟩) hlo hd hX.2.2.2.2.2.2.2.1
theorem m_J_aret (hM : m_okM M = true) (hf : (m_tb M).lookup pc = some (.areturn, t)) {a : Nat} {rt : FieldType} (hr : M.2.2.2.1 = some rt) (hrt : (∃ n, rt = .object n) ∨ ∃ t, rt = .array t) (hc : kc ≤ mc) (hs : ks ≤ ms) (hp : PR (some (.ref a)) h tg) : m_J l EX E M d mc ms PR PX tg kc ks (pc, L, [.ref a], h) := by
  obtain ⟨n, hd1, hn1, -, -⟩ := m_dec hM hf
  have hd : decode M.2.1 pc = .ok (.areturn, 1) := by rw [hd1, hn1 rfl]; rfl
  intro p e s m args below meth c H locs ls hX hR hz1 hz2 hlo hL
  refine W.widen (k := mc) (n := ms) hc hs (vx_ret ?_)
  exact W.aret hX.1 hX.2.1 (hX.2.2.1.trans hr) hrt (Or.inr ⟨_, rfl⟩) (fun t ht _ => ⟨⟨some (.ref a), h, tg, rfl, hp, by rw [ht]; exact hR⟩, by rw [ht]; exact hz1⟩) hlo hd hX.2.2.2.2.2.2.2.1
theorem m_J_vret (hM : m_okM M = true) (hf : (m_tb M).lookup pc = some (.return_, t)) (hr : M.2.2.2.1 = none) (hc : kc ≤ mc) (hs : ks ≤ ms) (hp : PR none h tg) : m_J l EX E M d mc ms PR PX tg kc ks (pc, L, [], h) := by
  obtain ⟨n, hd1, hn1, -, -⟩ := m_dec hM hf
  have hd : decode M.2.1 pc = .ok (.return_, 1) := by rw [hd1, hn1 rfl]; rfl
  intro p e s m args below meth c H locs ls hX hR hz1 hz2 hlo hL
  refine W.widen (k := mc) (n := ms) hc hs (vx_ret ?_)
  exact W.vret hX.1 hX.2.1 (hX.2.2.1.trans hr) (fun t ht _ => ⟨⟨none, h, tg, rfl, hp, by rw [ht]; exact hR⟩, by rw [ht]; exact hz1⟩) hlo hd hX.2.2.2.2.2.2.2.1
end
/-- the places at a method's entry -/
def m_ar : List Value → List (Option Value)
  | [] => []
  | v :: vs => bif v.category == 2 then some v :: none :: m_ar vs else some v :: m_ar vs
def m_ent (as : List Value) (n : Nat) : List (Option Value) := m_ar as ++ List.replicate (n - (m_ar as).length) none
theorem m_ar_args (E : mE) : ∀ (as : List Value) (k i : Nat) (v : Value), (m_ar as)[i]? = some (some v) → (k + i, m_v E v) ∈ lv_args k (as.map (m_v E)) := by
  intro as
  induction as with
  | nil => intro k i v h; simp [m_ar] at h
  | cons a as ih =>
    intro k i v h
    simp only [List.map_cons, lv_args, m_cat]
    by_cases hc : a.category = 2
    · simp only [m_ar, hc, beq_self_eq_true, cond_true] at h
      rw [if_pos hc]
      match i, h with
      | 0, h => simp at h; subst h; simp
      | 1, h => simp at h
      | i + 2, h =>
        have := ih (k + 2) i v (by simpa using h)
        rw [show k + 2 + i = k + (i + 2) by omega] at this
        exact List.mem_cons_of_mem _ this
    · have hb : (a.category == 2) = false := by simpa using hc
      simp only [m_ar, hb, cond_false] at h
      rw [if_neg hc]
      match i, h with
      | 0, h => simp at h; subst h; simp
      | i + 1, h =>
        have := ih (k + 1) i v (by simpa using h)
        rw [show k + 1 + i = k + (i + 1) by omega] at this
        exact List.mem_cons_of_mem _ this
theorem m_ar_len (E : mE) : ∀ as : List Value, (lg_sl (as.map (m_v E))).length = (m_ar as).length := by
  intro as
  induction as with
  | nil => rfl
  | cons a as ih =>
    have e : lg_sl ((a :: as).map (m_v E)) = lg_sl [m_v E a] ++ lg_sl (as.map (m_v E)) := by simp [lg_sl]
    rw [e, List.length_append, ih]
    by_cases hc : a.category = 2
    · simp [lg_sl, m_cat, m_ar, hc]; omega
    · have hb : (a.category == 2) = false := by simpa using hc
      simp [lg_sl, m_cat, m_ar, hc, hb]; omega
theorem m_ent_L (E : mE) (as : List Value) (n : Nat) (hn : (m_ar as).length ≤ n) : m_L E ((lg_sl (as.map (m_v E)) ++ List.replicate (n - (lg_sl (as.map (m_v E))).length) Slot.unset).toArray) n (m_ent as n) := by
  have h := lv_entry (as.map (m_v E)) (n := n) (by rw [m_ar_len]; exact hn)
  refine ⟨h.1, h.2.1, by simp [m_ent]; omega, fun i v hi => ?_⟩
  have hi2 : (m_ar as)[i]? = some (some v) := by
    unfold m_ent at hi
    by_cases hl : i < (m_ar as).length
    · rwa [List.getElem?_append_left hl] at hi
    · rw [List.getElem?_append_right (by omega)] at hi
      have := List.mem_of_getElem? hi
      rw [List.mem_replicate] at this
      cases this.2
  have := m_ar_args E as 0 i v hi2
  rw [Nat.zero_add] at this
  exact h.2.2 (i, m_v E v) this
theorem m_Sp_of {l : Launch} {EX : State → Prop} {E : mE} {M : mM} {d mc ms : Nat} {as : List Value} {h : mH} {tg : Bool} {PR : Option Value → mH → Bool → Prop} {PX : String → mH → Prop} (hy : plainName M.1.cls = true) (hn : (m_ar as).length ≤ M.2.2.1)
    (hJ : m_J l EX E M d mc ms PR PX tg 0 0 (0, m_ent as M.2.2.1, [], h)) : m_Sp l EX E M d mc ms as h tg PR PX := by
  obtain ⟨y, bytes, maxL, ret, hh, o, tb⟩ := M
  have body : ∀ (p : Program) (e : Env) (s : State) (m : MethodId) (args : Array Value) (below : List Frame) (meth : Method) (c : Code) (s₁ : State), BodyLoose p l y (headSpec (m_ws (y, bytes, maxL, ret, hh, o, tb)) (m_rm d mc ms)) bytes maxL ret e s m args below meth c s₁ → c.maxLocals = maxL → c.exceptionTable.toList = tableOf hh →
      va_Pc (as.map (m_v E)) (fun U => m_R E tg h U.heap ∧ va_K E.2.2.1 m_cl (m_tys E) U ∧ EX U) args s → W p l e (headSpec (m_ws (y, bytes, maxL, ret, hh, o, tb)) (m_rm d mc ms)).room s m args below meth c s.heap [] 0 0 (vx_MQ below (m_Qc E PR) (m_XC E PX) args s mc ms (fun q => E.1 ≤ q)) (entryFrame m args maxL) := by
    intro p e s m args below meth c s₁ B hml htab hv
    obtain ⟨rfl, hR, hK, hE⟩ := hv
    have hts := atoms_spec (ws := m_ws (y, bytes, maxL, ret, hh, o, tb)) B.pre
    rw [lg_entry_eq]
    exact hJ p e s m _ below meth c s.heap [] _ ⟨B.exec, B.bytes, B.returns, hml, findClass_of_methodNamed B.named, fun w hw => hts w (List.mem_cons_of_mem _ hw), hK, B.notSynchronized, (name_of_methodNamed B.named B.method).1, htab, hE, Nat.le_trans (Nat.le_add_right _ _) hR.2.1, hR.2.2.2.1⟩ hR (Nat.le_refl _) (fun ht => by have := hR.2.2.1 ht; exact this) (fun q hq => by cases hq) (m_ent_L E as maxL hn)
  cases hh with
  | nil =>
    refine vx_ofW (cc := bytes) (maxL := maxL) (ret := ret) hy rfl ?_
    intro p e s m args below meth c s₁ B hml ht hv
    refine body p e s m args below meth c s₁ B hml ?_ hv
    cases hl : c.exceptionTable.toList with
    | nil => rfl
    | cons x xs => exact (ht x (by rw [hl]; simp)).elim
  | cons q hh =>
    refine vx_ofWH (cc := bytes) (maxL := maxL) (ret := ret) (hh := q :: hh) hy rfl ?_
    intro p e s m args below meth c s₁ B hml hv
    exact body p e s m args below meth c s₁ B hml (vx_table (x := y) B (atoms_spec (ws := m_ws (y, bytes, maxL, ret, q :: hh, o, tb)) B.pre _ List.mem_cons_self)) hv
/-- a throw that has come over this body's frame, at pc -/
def m_JX (l : Launch) (EX : State → Prop) (E : mE) (M : mM) (d mc ms : Nat) (PR : Option Value → mH → Bool → Prop) (PX : String → mH → Prop) (kc ks : Nat) (nm : String) (pc : Nat) (L : List (Option Value)) (h : mH) : Prop :=
  ∀ (p : Program) (e : Env) (s : State) (m : MethodId) (args : Array Value) (below : List Frame) (meth : Method) (c : Code) (H : Heap) (locs : List Loc) (ls : Array Slot) (q : Addr) (ce : Cell) (rest : List Value),
    m_X EX E M p s m args meth c → m_R E false h H → s.heap.size ≤ H.size → (∀ q ∈ locs, E.1 ≤ q.base) → m_L E ls M.2.2.1 L → H[q]? = some ce → ce.vm = .none → s.vm.findClass nm = some ce.cls →
    vx_W p l e (m_rm d mc ms) s m args below meth c H locs kc ks (vx_MQ below (m_Qc E PR) (m_XC E PX) args s mc ms (fun q => E.1 ≤ q)) (F0 m pc ls rest) q
theorem m_JX_out {l : Launch} {EX : State → Prop} {E : mE} {M : mM} {d mc ms : Nat} {PR : Option Value → mH → Bool → Prop} {PX : String → mH → Prop} {kc ks : Nat} {nm : String} {pc : Nat} {L : List (Option Value)} {h : mH} (hh : M.2.2.2.2.1 = []) (hc : kc ≤ mc) (hs : ks ≤ ms) (hp : PX nm h) : m_JX l EX E M d mc ms PR PX kc ks nm pc L h := by
  intro p e s m args below meth c H locs ls q ce rest hX hR hz1 hlo hL hq hv hcl
  refine vx_out (fun x hx => ?_) hX.2.2.2.2.2.2.2.1 hq hv hcl (fun t ht _ => ⟨⟨h, hp, by rw [ht]; exact hR⟩, by rw [ht]; exact hz1⟩) hlo hc hs
  rw [hX.2.2.2.2.2.2.2.2.2.1, hh] at hx
  cases hx
theorem m_blind {E : mE} {tg : Bool} {h : mH} {EX : State → Prop} (hEX : ∀ s U : State, s.WarmedH U.vm → EX s → EX U) (av : List Value) : FrameBlind (va_Pc av (fun U => m_R E tg h U.heap ∧ va_K E.2.2.1 m_cl (m_tys E) U ∧ EX U)) := by
  intro a U g mk q
  obtain ⟨q0, q1, q2, q3⟩ := q
  exact ⟨q0, q1, va_K.moved (u := U) (U := U.calling g mk a) (Vm.Alike.refl U.vm) q2, hEX U _ (State.WarmedH.refl U) q3⟩
section
variable {l : Launch} {EX : State → Prop} {E : mE} {M M' : mM} {d mc ms : Nat} {PR : Option Value → mH → Bool → Prop} {PX : String → mH → Prop} {tg : Bool} {kc ks : Nat} {pc t : Nat} {L : List (Option Value)} {h : mH}
variable {p : Program} {e : Env} {s : State} {m : MethodId} {args : Array Value} {below : List Frame} {meth : Method} {c : Code} {mc' ms' : Nat} {as rest : List Value} {PR' : Option Value → mH → Bool → Prop} {PX' : String → mH → Prop}
theorem m_mem_tbl {w : Cond} (hX : m_X EX E M p s m args meth c) (hw : w ∈ m_tbl) : ∀ (a' : Array Value) (U : State), s.WarmedH U.vm → w.before a' U = true :=
  fun a' U hW => m_word_at hW (List.mem_filter.mp hw).2 (hX.2.2.2.2.2.1 w hw)
theorem m_vback (hX : m_X EX E M p s m args meth c) (hEX : ∀ s U : State, s.WarmedH U.vm → EX s → EX U) (hsp : m_Sp l EX E M' d mc' ms' as h tg PR' PX') (hcode : m_in (m_w1 M') = true) (hini : m_in (.initialized M'.1.cls) = true) (hmx : M'.2.2.1 ≤ 49) :
    vx_Back l (m_rm (d + 1) mc ms) p e below s args M'.1 3 40 (PreOf (m_rm (d + 1) mc ms) mc' ms' (va_Pc (as.map (m_v E)) (fun U => m_R E tg h U.heap ∧ va_K E.2.2.1 m_cl (m_tys E) U ∧ EX U))) (PostOf (m_Qc E PR') mc' ms' (fun q => E.1 ≤ q)) (vx_Post (m_XC E PX') mc' ms' (fun q => E.1 ≤ q)) := by
  have hws : ∀ w ∈ m_ws M', ∀ (a' : Array Value) (U : State), s.WarmedH U.vm → w.before a' U = true := by
    intro w hw
    rcases List.mem_cons.mp hw with rfl | hw
    · exact m_mem_tbl hX (m_in_mem hcode)
    · exact m_mem_tbl hX hw
  have hfr : (m_rm d mc' ms').frames + 1 ≤ (m_rm (d + 1) mc ms).frames := by simp [m_rm]; omega
  have hlo : 40 + (M'.2.2.1 + 11) + (m_rm d mc' ms').locals ≤ (m_rm (d + 1) mc ms).locals := by simp [m_rm]; omega
  obtain ⟨y, bytes, maxL, ret, hh, o, tb⟩ := M'
  cases hh with
  | nil => exact vx_back (bytes := bytes) (maxL := maxL) (ret := ret) hsp (m_blind hEX _) rfl rfl hfr hlo hws List.mem_cons_self (fun a' U hW => m_mem_tbl hX (m_in_mem hini) a' U hW)
  | cons q hh => exact vx_backW (bytes := bytes) (maxL := maxL) (ret := ret) (hh := q :: hh) hsp (m_blind hEX _) rfl rfl hfr hlo hws List.mem_cons_self (fun a' U hW => m_mem_tbl hX (m_in_mem hini) a' U hW)
theorem m_vl (E : mE) (v : Option Value) (rest : List Value) : (v.map (m_v E)).toList ++ rest.map (m_v E) = (v.toList ++ rest).map (m_v E) := by cases v <;> simp
/-- behind a call: it returned, or threw -/
theorem m_after {H : Heap} {locs : List Loc} {ls : Array Slot} {T : State} {st : List Value} {aa : Array Value} {Q : State → Prop} {R : Room}
    (hz1 : s.heap.size ≤ H.size) (hz2 : tg = true → s.heap.size + kc ≤ E.1 + h.length) (hlo : ∀ q ∈ locs, E.1 ≤ q.base) (hT : T.heap = H)
    (kR : ∀ v h' tg', PR' v h' tg' → (tg' = true → tg = true ∧ h.length + mc' ≤ h'.length) ∧ ∀ H1 locs1, m_R E tg' h' H1 → s.heap.size ≤ H1.size → (tg' = true → s.heap.size + (kc + mc') ≤ E.1 + h'.length) → (∀ q ∈ locs1, E.1 ≤ q.base) → W p l e R s m args below meth c H1 locs1 (kc + mc') (ks + ms') Q (F0 m (pc + 3) ls ((v.toList ++ rest).map (m_v E))))
    (kX : ∀ nm h', PX' nm h' → ∀ H1 locs1 q ce, m_R E false h' H1 → s.heap.size ≤ H1.size → (∀ q ∈ locs1, E.1 ≤ q.base) → H1[q]? = some ce → ce.vm = .none → s.vm.findClass nm = some ce.cls → vx_W p l e R s m args below meth c H1 locs1 (kc + mc') (ks + ms') Q (F0 m pc ls (rest.map (m_v E))) q)
    (hr : (∃ (v : Option Value) (vm₁ : Vm) (B : Pt), s.WarmedH vm₁ ∧ Stand p l e R s m args below meth c B.U B.locs B.cells B.slots ∧ PostOf (m_Qc E PR') mc' ms' (fun q => E.1 ≤ q) ⟨T.setVm vm₁, locs, kc, ks⟩ aa v B ∧
      ∀ target, Steps p.tables e below (B.U.setTop { F0 m pc ls st with pc := pc + 3, stack := v.toList ++ rest.map (m_v E) }) target → Steps p.tables e below (T.setTop (F0 m pc ls st)) target) ∨
    (∃ (q : Addr) (vm₁ : Vm) (B : Pt), s.WarmedH vm₁ ∧ Stand p l e R s m args below meth c B.U B.locs B.cells B.slots ∧ vx_Post (m_XC E PX') mc' ms' (fun q => E.1 ≤ q) ⟨T.setVm vm₁, locs, kc, ks⟩ aa q B ∧
      Steps p.tables e below (T.setTop (F0 m pc ls st)) ((B.U.setTop { F0 m pc ls st with stack := rest.map (m_v E) }).pushFrame (.throwing q)))) :
    ∃ t, Steps p.tables e below (T.setTop (F0 m pc ls st)) t ∧ Q t := by
  rcases hr with ⟨v, vm₁, ⟨U', l2, c2, s2⟩, hW₁, X', ⟨g', mk, t, LL, e1, e2, hq, h1, hL1, h2, h3⟩, stp⟩ | ⟨q, vm₁, ⟨U', l2, c2, s2⟩, hW₁, X', ⟨g', mk, t, LL, nm, ce, e1, e2, hx, hce, hcv, hcl, h1, hL1, h2, h3⟩, stp⟩
  · dsimp only [Pt.U, Pt.locs, Pt.cells, Pt.slots] at X' e1 e2 h1 h2 h3 stp
    subst h1; subst h2; subst h3
    obtain ⟨⟨v', h', tg', ev, hp, hR1⟩, hsz⟩ := hq
    cases ev
    have hsz2 : H.size ≤ U'.heap.size := by rw [e1, ← hT]; exact hsz
    obtain ⟨htt, kk⟩ := kR v' h' tg' hp
    obtain ⟨t2, a1, b1⟩ := kk U'.heap (locs ++ LL) (by rw [e1]; exact hR1) (Nat.le_trans hz1 hsz2) (fun ht => by
        obtain ⟨ht1, hl⟩ := htt ht
        have := hz2 ht1
        omega) (fun q hq => by
        rcases List.mem_append.mp hq with hq | hq
        · exact hlo q hq
        · exact hL1 q hq) U' rfl X'
    rw [← m_vl] at a1
    exact ⟨t2, stp t2 a1, b1⟩
  · dsimp only [Pt.U, Pt.locs, Pt.cells, Pt.slots] at X' e1 e2 h1 h2 h3 stp hcl
    subst h1; subst h2; subst h3
    obtain ⟨⟨h', hp, hR1⟩, hsz⟩ := hx
    have hsz2 : H.size ≤ U'.heap.size := by rw [e1, ← hT]; exact hsz
    obtain ⟨t2, a1, b1⟩ := kX nm h' hp U'.heap (locs ++ LL) q ce (by rw [e1]; exact hR1) (Nat.le_trans hz1 hsz2) (fun q hq => by
        rcases List.mem_append.mp hq with hq | hq
        · exact hlo q hq
        · exact hL1 q hq) (by rw [e1]; exact hce) hcv (vx_cls hW₁ hcl) U' rfl X'
    exact ⟨t2, stp.trans a1, b1⟩
end
theorem m_cw0_spec {M' : mM} {n : Nat} (h : m_cw0 M' n = true) : m_in (m_w1 M') = true ∧ m_in (.initialized M'.1.cls) = true ∧ M'.2.2.1 ≤ 49 ∧ (∀ sig, parseMethodDescriptor M'.1.desc = some sig → n = sig.parameters.length) ∧ (M'.1.cls ≠ "java/lang/invoke/MethodHandle" ∧ M'.1.cls ≠ "java/lang/invoke/VarHandle") := by
  simp only [m_cw0, Bool.and_eq_true, decide_eq_true_eq] at h
  obtain ⟨⟨⟨⟨⟨h1, h2⟩, h3⟩, h4⟩, h5⟩, h6⟩ := h
  refine ⟨h1, h2, Nat.le_of_ble_eq_true h3, fun sig hs => ?_, h5, h6⟩
  unfold m_ar1 at h4
  rw [hs] at h4
  exact (of_decide_eq_true h4).symm
section
variable {l : Launch} {EX : State → Prop} {E : mE} {M M' : mM} {d mc ms : Nat} {PR : Option Value → mH → Bool → Prop} {PX : String → mH → Prop} {tg : Bool} {kc ks : Nat} {pc t : Nat} {L : List (Option Value)} {h : mH}
variable {mc' ms' i : Nat} {as rest st : List Value} {PR' : Option Value → mH → Bool → Prop} {PX' : String → mH → Prop}
set_option maxHeartbeats 1000000 in
theorem m_J_callS (hEX : ∀ s U : State, s.WarmedH U.vm → EX s → EX U) (hM : m_okM M = true) (hf : (m_tb M).lookup pc = some (.invokestatic i, t)) {n0 : Nat} (hcw : m_cwS M.1.cls i M' n0 = true) (hn0 : as.length = n0) (hst : st = as.reverse ++ rest) (hrs : (rest.map fun v => v.category).sum ≤ 40) (hc : kc + mc' ≤ mc) (hs : ks + ms' ≤ ms)
    (hsp : m_Sp l EX E M' d mc' ms' as h tg PR' PX')
    (kR : ∀ v h' tg', PR' v h' tg' → (tg' = true → tg = true ∧ h.length + mc' ≤ h'.length) ∧ m_J l EX E M (d + 1) mc ms PR PX tg' (kc + mc') (ks + ms') (pc + 3, L, v.toList ++ rest, h'))
    (kX : ∀ nm h', PX' nm h' → m_JX l EX E M (d + 1) mc ms PR PX (kc + mc') (ks + ms') nm pc L h') : m_J l EX E M (d + 1) mc ms PR PX tg kc ks (pc, L, st, h) := by
  subst hst
  subst hn0
  obtain ⟨n, hd1, hn1, -, -⟩ := m_dec hM hf
  have hd : decode M.2.1 pc = .ok (.invokestatic i, 3) := by rw [hd1, hn1 rfl]; rfl
  simp only [m_cwS, Bool.and_eq_true] at hcw
  obtain ⟨⟨hcw, hl1⟩, hl2⟩ := hcw
  obtain ⟨w1, w2, w3, w4, w5⟩ := m_cw0_spec hcw
  intro p e s m args below meth c H locs ls hX hR hz1 hz2 hlo hL T hT X
  have hb : decode c.code (F0 m pc ls ((as.reverse ++ rest).map (m_v E))).pc = .ok (.invokestatic i, 3) := by rw [hX.2.1]; exact hd
  have hK := m_vback (p := p) (e := e) (below := below) (mc := mc) (ms := ms) hX hEX hsp w1 w2 w3
  have hstk : (F0 m pc ls ((as.reverse ++ rest).map (m_v E))).stack = (as.map (m_v E)).reverse ++ rest.map (m_v E) := by simp
  have hcat : 2 * (F0 m pc ls ((as.reverse ++ rest).map (m_v E))).monitorRoom + ((rest.map (m_v E)).map fun v => v.category).sum ≤ 40 := by
    have e0 : (rest.map (m_v E)).map (fun v => v.category) = rest.map (fun v => v.category) := by rw [List.map_map]; exact List.map_congr_left (fun v _ => m_cat E v)
    rw [e0]; simpa [JFrame.monitorRoom] using hrs
  have hpre : ∀ vm₁, s.WarmedH vm₁ → PreOf (m_rm (d + 1) mc ms) mc' ms' (va_Pc (as.map (m_v E)) (fun U => m_R E tg h U.heap ∧ va_K E.2.2.1 m_cl (m_tys E) U ∧ EX U)) ⟨T.setVm vm₁, locs, kc, ks⟩ (as.map (m_v E)).toArray :=
    fun vm₁ hW₁ => ⟨hc, hs, rfl, by show m_R E tg h T.heap; rw [hT]; exact hR, va_K.moved (u := s) (U := T.setVm vm₁) hW₁.alike hX.2.2.2.2.2.2.1, hEX s (T.setVm vm₁) hW₁ hX.2.2.2.2.2.2.2.2.2.2.1⟩
  have hcode := m_mem_tbl hX (m_in_mem w1) args s (State.WarmedH.refl s)
  obtain ⟨y, bytes, maxL, ret, hh, o, tb⟩ := M'
  refine m_after (mc' := mc') (ms' := ms') (PR' := PR') (PX' := PX') hz1 hz2 hlo hT (fun v h' tg' hp => ⟨(kR v h' tg' hp).1, fun H1 locs1 a1 a2 a3 a4 => (kR v h' tg' hp).2 p e s m args below meth c H1 locs1 ls hX a1 a2 a3 a4 hL⟩) (fun nm h' hp H1 locs1 q ce a1 a2 a3 a4 a5 a6 => kX nm h' hp p e s m args below meth c H1 locs1 ls q ce _ hX a1 a2 a3 hL a4 a5 a6) (aa := (as.map (m_v E)).toArray) ?_
  cases hh with
  | nil => exact vx_callS X hX.1 (bytes := bytes) (maxL := maxL) (ret := ret) hX.2.2.2.2.1 (hX.2.2.2.2.2.1 _ (m_in_mem hl1)) (hX.2.2.2.2.2.1 _ (m_in_mem hl2)) (hX.2.2.2.2.2.1 _ (m_in_mem w2)) hcode w5 hK rfl (hL.1.trans hX.2.2.2.1.symm) (argsL := as.map (m_v E)) (fun sig hs => by rw [List.length_map]; exact w4 sig hs) hstk hcat hb hpre
  | cons q hh => exact vx_callSX X hX.1 (bytes := bytes) (maxL := maxL) (ret := ret) (hh := q :: hh) hX.2.2.2.2.1 (hX.2.2.2.2.2.1 _ (m_in_mem hl1)) (hX.2.2.2.2.2.1 _ (m_in_mem hl2)) (hX.2.2.2.2.2.1 _ (m_in_mem w2)) hcode w5 hK rfl (hL.1.trans hX.2.2.2.1.symm) (argsL := as.map (m_v E)) (fun sig hs => by rw [List.length_map]; exact w4 sig hs) hstk hcat hb hpre
set_option maxHeartbeats 1000000 in
theorem m_J_callV (hEX : ∀ s U : State, s.WarmedH U.vm → EX s → EX U) (hM : m_okM M = true) (hf : (m_tb M).lookup pc = some (.invokevirtual i, t)) {n0 : Nat} (hcw : m_cwV M.1.cls i M' n0 = true) (hn0 : as.length = n0) (hh0 : M'.2.2.2.2.1 = []) {b ci : Nat} {fs : List Value} (hst : st = as.reverse ++ .ref b :: rest) (hob : h[b]? = some (.inr (ci, fs))) (hci : ∃ r, m_cl[ci]? = some r ∧ r.1 = M'.1.cls) (hrs : (rest.map fun v => v.category).sum ≤ 40) (hc : kc + mc' ≤ mc) (hs : ks + ms' ≤ ms)
    (hsp : m_Sp l EX E M' d mc' ms' (.ref b :: as) h tg PR' PX')
    (kR : ∀ v h' tg', PR' v h' tg' → (tg' = true → tg = true ∧ h.length + mc' ≤ h'.length) ∧ m_J l EX E M (d + 1) mc ms PR PX tg' (kc + mc') (ks + ms') (pc + 3, L, v.toList ++ rest, h'))
    (kX : ∀ nm h', PX' nm h' → m_JX l EX E M (d + 1) mc ms PR PX (kc + mc') (ks + ms') nm pc L h') : m_J l EX E M (d + 1) mc ms PR PX tg kc ks (pc, L, st, h) := by
  subst hst
  subst hn0
  obtain ⟨n, hd1, hn1, -, -⟩ := m_dec hM hf
  have hd : decode M.2.1 pc = .ok (.invokevirtual i, 3) := by rw [hd1, hn1 rfl]; rfl
  simp only [m_cwV, Bool.and_eq_true] at hcw
  obtain ⟨⟨⟨hcw, hl1⟩, hl2⟩, hl3⟩ := hcw
  obtain ⟨w1, w2, w3, w4, w5⟩ := m_cw0_spec hcw
  intro p e s m args below meth c H locs ls hX hR hz1 hz2 hlo hL T hT X
  have hb : decode c.code (F0 m pc ls ((as.reverse ++ .ref b :: rest).map (m_v E))).pc = .ok (.invokevirtual i, 3) := by rw [hX.2.1]; exact hd
  have hK := m_vback (p := p) (e := e) (below := below) (mc := mc) (ms := ms) hX hEX hsp w1 w2 w3
  have hstk : (F0 m pc ls ((as.reverse ++ .ref b :: rest).map (m_v E))).stack = (as.map (m_v E)).reverse ++ .ref (m_ad E b) :: rest.map (m_v E) := by simp [m_v]
  have hcat : 2 * (F0 m pc ls ((as.reverse ++ .ref b :: rest).map (m_v E))).monitorRoom + ((rest.map (m_v E)).map fun v => v.category).sum ≤ 40 := by
    have e0 : (rest.map (m_v E)).map (fun v => v.category) = rest.map (fun v => v.category) := by rw [List.map_map]; exact List.map_congr_left (fun v _ => m_cat E v)
    rw [e0]; simpa [JFrame.monitorRoom] using hrs
  have hpre : ∀ vm₁, s.WarmedH vm₁ → PreOf (m_rm (d + 1) mc ms) mc' ms' (va_Pc ((Value.ref b :: as).map (m_v E)) (fun U => m_R E tg h U.heap ∧ va_K E.2.2.1 m_cl (m_tys E) U ∧ EX U)) ⟨T.setVm vm₁, locs, kc, ks⟩ (Value.ref (m_ad E b) :: as.map (m_v E)).toArray :=
    fun vm₁ hW₁ => ⟨hc, hs, rfl, by show m_R E tg h T.heap; rw [hT]; exact hR, va_K.moved (u := s) (U := T.setVm vm₁) hW₁.alike hX.2.2.2.2.2.2.1, hEX s (T.setVm vm₁) hW₁ hX.2.2.2.2.2.2.2.2.2.2.1⟩
  have hcode := m_mem_tbl hX (m_in_mem w1) args s (State.WarmedH.refl s)
  obtain ⟨r, hr1, hr2⟩ := hci
  obtain ⟨cellB, hcB, hoB, hclB⟩ := va_recv hX.2.2.2.2.2.2.1 hR.1 hr1 (m_W_get (E := E) hob)
  obtain ⟨y, bytes, maxL, ret, hh, o, tb⟩ := M'
  dsimp only at hh0 hr2
  subst hh0
  refine m_after (mc' := mc') (ms' := ms') (PR' := PR') (PX' := PX') hz1 hz2 hlo hT (fun v h' tg' hp => ⟨(kR v h' tg' hp).1, fun H1 locs1 a1 a2 a3 a4 => (kR v h' tg' hp).2 p e s m args below meth c H1 locs1 ls hX a1 a2 a3 a4 hL⟩) (fun nm h' hp H1 locs1 q ce a1 a2 a3 a4 a5 a6 => kX nm h' hp p e s m args below meth c H1 locs1 ls q ce _ hX a1 a2 a3 hL a4 a5 a6) (aa := (Value.ref (m_ad E b) :: as.map (m_v E)).toArray) ?_
  exact vx_callV X hX.1 (C := y.cls) (bytes := bytes) (maxL := maxL) (ret := ret) hX.2.2.2.2.1 (hX.2.2.2.2.2.1 _ (m_in_mem hl1)) (hX.2.2.2.2.2.1 _ (m_in_mem hl2)) (hX.2.2.2.2.2.1 _ (m_in_mem hl3)) hcode w5 hK (by rw [hT]; exact hcB) hoB (by rw [← hr2]; exact hclB) rfl (hL.1.trans hX.2.2.2.1.symm) (argsL := as.map (m_v E)) (fun sig hs => by rw [List.length_map]; exact w4 sig hs) hstk hcat hb hpre
end
end
section
/-! CONSTRUCTORS AND NEW CELLS of the small machine -/
section
variable {l : Launch} {EX : State → Prop} {E : mE} {M M' : mM} {d mc ms : Nat} {PR : Option Value → mH → Bool → Prop} {PX : String → mH → Prop} {tg : Bool} {kc ks : Nat} {pc t : Nat} {L : List (Option Value)} {h : mH}
variable {mc' ms' i : Nat} {as rest st : List Value} {PR' : Option Value → mH → Bool → Prop}
theorem m_back0 {p : Program} {e : Env} {R : Room} {below : List Frame} {s : State} {sargs : Array Value} {y : MethodName} {len W9 : Nat} {Pre : Pt → Array Value → Prop} {Post : Pt → Array Value → Option Value → Pt → Prop} {PostX : Pt → Array Value → Addr → Pt → Prop} (h : vx_Back l R p e below s sargs y len W9 Pre Post PostX) (hX : ∀ A a q B, ¬ PostX A a q B) : Back l R p e below s sargs y len W9 Pre Post := by
  intro m meth c A g ig mk a X hg hsize hdg hW hn hp
  rcases h m meth c A g ig mk a X hg hsize hdg hW hn hp with h1 | ⟨q, B, -, h2, -⟩
  · exact h1
  · exact (hX _ _ _ _ h2).elim
set_option maxHeartbeats 1000000 in
theorem m_J_callI (nest : Bool) (hEX : ∀ s U : State, s.WarmedH U.vm → EX s → EX U) (hM : m_okM M = true) (hf : (m_tb M).lookup pc = some (.invokespecial i, t)) {n0 : Nat} (hcw : (bif nest then m_cwN M.1.cls i M' n0 else m_cwI M.1.cls i M' n0) = true) (hn0 : as.length = n0) (hh0 : M'.2.2.2.2.1 = []) {b : Nat} (hst : st = as.reverse ++ .ref b :: rest) (hrs : (rest.map fun v => v.category).sum ≤ 40) (hc : kc + mc' ≤ mc) (hs : ks + ms' ≤ ms)
    (hsp : m_Sp l EX E M' d mc' ms' (.ref b :: as) h tg PR' (fun _ _ => False))
    (kR : ∀ v h' tg', PR' v h' tg' → (tg' = true → tg = true ∧ h.length + mc' ≤ h'.length) ∧ m_J l EX E M (d + 1) mc ms PR PX tg' (kc + mc') (ks + ms') (pc + 3, L, v.toList ++ rest, h')) : m_J l EX E M (d + 1) mc ms PR PX tg kc ks (pc, L, st, h) := by
  subst hst
  subst hn0
  obtain ⟨n, hd1, hn1, -, -⟩ := m_dec hM hf
  have hd : decode M.2.1 pc = .ok (.invokespecial i, 3) := by rw [hd1, hn1 rfl]; rfl
  have hcw2 : m_cw0 M' as.length = true ∧ m_in (.instanceMethod M'.1) = true ∧ M'.1.name = "<init>" ∧ M'.2.2.2.1 = none ∧ (nest = false → m_in (.methodLink M.1.cls i M'.1) = true) ∧ (nest = true → m_in (.methodLinkNest M.1.cls i M'.1 "LandUses") = true) := by
    cases nest with
    | false =>
      simp only [cond_false, m_cwI, Bool.and_eq_true, decide_eq_true_eq] at hcw
      exact ⟨hcw.1.1.1.1, hcw.1.1.2, hcw.1.2, hcw.2, fun _ => hcw.1.1.1.2, fun h => by cases h⟩
    | true =>
      simp only [cond_true, m_cwN, Bool.and_eq_true, decide_eq_true_eq] at hcw
      exact ⟨hcw.1.1.1.1, hcw.1.1.2, hcw.1.2, hcw.2, (fun h => by cases h), fun _ => hcw.1.1.1.2⟩
  obtain ⟨hcw, hl2, hini, hret, hlk, hln⟩ := hcw2
  obtain ⟨w1, w2, w3, w4, w5⟩ := m_cw0_spec hcw
  intro p e s m args below meth c H locs ls hX hR hz1 hz2 hlo hL T hT X
  have hb : decode c.code (F0 m pc ls ((as.reverse ++ .ref b :: rest).map (m_v E))).pc = .ok (.invokespecial i, 3) := by rw [hX.2.1]; exact hd
  have hK := m_back0 (m_vback (p := p) (e := e) (below := below) (mc := mc) (ms := ms) hX hEX hsp w1 w2 w3) (fun A a q B hp => by
    obtain ⟨_, _, _, _, _, _, _, _, ⟨⟨_, hf, _⟩, _⟩, _⟩ := hp
    exact hf)
  have hstk : (F0 m pc ls ((as.reverse ++ .ref b :: rest).map (m_v E))).stack = (as.map (m_v E)).reverse ++ .ref (m_ad E b) :: rest.map (m_v E) := by simp [m_v]
  have hcat : 2 * (F0 m pc ls ((as.reverse ++ .ref b :: rest).map (m_v E))).monitorRoom + ((rest.map (m_v E)).map fun v => v.category).sum ≤ 40 := by
    have e0 : (rest.map (m_v E)).map (fun v => v.category) = rest.map (fun v => v.category) := by rw [List.map_map]; exact List.map_congr_left (fun v _ => m_cat E v)
    rw [e0]; simpa [JFrame.monitorRoom] using hrs
  have hpre : ∀ vm₁, s.WarmedH vm₁ → PreOf (m_rm (d + 1) mc ms) mc' ms' (va_Pc ((Value.ref b :: as).map (m_v E)) (fun U => m_R E tg h U.heap ∧ va_K E.2.2.1 m_cl (m_tys E) U ∧ EX U)) ⟨T.setVm vm₁, locs, kc, ks⟩ (Value.ref (m_ad E b) :: as.map (m_v E)).toArray :=
    fun vm₁ hW₁ => ⟨hc, hs, rfl, by show m_R E tg h T.heap; rw [hT]; exact hR, va_K.moved (u := s) (U := T.setVm vm₁) hW₁.alike hX.2.2.2.2.2.2.1, hEX s (T.setVm vm₁) hW₁ hX.2.2.2.2.2.2.2.2.2.2.1⟩
  have hcode := m_mem_tbl hX (m_in_mem w1) args s (State.WarmedH.refl s)
  obtain ⟨y, bytes, maxL, ret, hh, o, tb⟩ := M'
  dsimp only at hh0 hret
  subst hh0
  subst hret
  refine m_after (mc' := mc') (ms' := ms') (PR' := PR') (PX' := fun _ _ => False) hz1 hz2 hlo hT (fun v h' tg' hp => ⟨(kR v h' tg' hp).1, fun H1 locs1 a1 a2 a3 a4 => (kR v h' tg' hp).2 p e s m args below meth c H1 locs1 ls hX a1 a2 a3 a4 hL⟩) (fun nm h' hp => hp.elim) (aa := (Value.ref (m_ad E b) :: as.map (m_v E)).toArray) (Or.inl ?_)
  cases nest with
  | false => exact callI X hX.1 (bytes := bytes) (maxL := maxL) hX.2.2.2.2.1 hini (hX.2.2.2.2.2.1 _ (m_in_mem (hlk rfl))) (hX.2.2.2.2.2.1 _ (m_in_mem hl2)) hcode w5 hK rfl (hL.1.trans hX.2.2.2.1.symm) (argsL := as.map (m_v E)) (fun sig hs => by rw [List.length_map]; exact w4 sig hs) hstk hcat hb hpre
  | true => exact va_callIN X hX.1 (bytes := bytes) (maxL := maxL) hX.2.2.2.2.1 hini (hX.2.2.2.2.2.1 _ (m_in_mem (hln rfl))) (hX.2.2.2.2.2.1 _ (m_in_mem hl2)) hcode w5 hK rfl (hL.1.trans hX.2.2.2.1.symm) (argsL := as.map (m_v E)) (fun sig hs => by rw [List.length_map]; exact w4 sig hs) hstk hcat hb hpre
/-- Object's own constructor -/
theorem m_J_obj (hM : m_okM M = true) (hf : (m_tb M).lookup pc = some (.invokespecial i, t)) (hw : m_oi M.1.cls i = true) {b : Nat} (hrs : (rest.map fun v => v.category).sum ≤ 40) (hJ : m_J l EX E M d mc ms PR PX tg kc ks (pc + 3, L, rest, h)) : m_J l EX E M d mc ms PR PX tg kc ks (pc, L, .ref b :: rest, h) := by
  obtain ⟨n, hd1, hn1, -, -⟩ := m_dec hM hf
  have hd : decode M.2.1 pc = .ok (.invokespecial i, 3) := by rw [hd1, hn1 rfl]; rfl
  simp only [m_oi, Bool.and_eq_true] at hw
  intro p e s m args below meth c H locs ls hX hR hz1 hz2 hlo hL
  refine W.objInit (idx := i) (a := m_ad E b) (rest := rest.map (m_v E)) hX.1 hX.2.1 hX.2.2.2.2.1 (hX.2.2.2.2.2.1 _ (m_in_mem hw.1.1)) (hX.2.2.2.2.2.1 _ (m_in_mem hw.1.2)) (hX.2.2.2.2.2.1 _ (m_in_mem hw.2)) rfl (hL.1.trans hX.2.2.2.1.symm) rfl hd (by simp [m_rm]; omega) ?_ (hJ p e s m args below meth c H locs ls hX hR hz1 hz2 hlo hL)
  have e0 : (rest.map (m_v E)).map (fun v => v.category) = rest.map (fun v => v.category) := by rw [List.map_map]; exact List.map_congr_left (fun v _ => m_cat E v)
  rw [e0]
  simp [JFrame.monitorRoom, m_rm]; omega
/-- the heap with one cell more -/
theorem m_R_push {H H1 : Heap} {x : va_E} (hR : m_R E true h H) (hlen : h.length < 1000000) (hz : H1.size = H.size + 1) (ho : ∀ q, q < H.size → H1[q]? = H[q]?) (hx : va_at E.2.2.1 m_cl (H.size, m_c E x) H1) : m_R E true (h ++ [x]) H1 := by
  have e0 : H.size = E.1 + h.length := Nat.le_antisymm (hR.2.2.1 rfl) hR.2.1
  refine ⟨fun k q hq => ?_, by rw [List.length_append]; simp; omega, fun _ => by rw [List.length_append]; simp; omega, fun q hq => ?_, by rw [List.length_append]; simp; omega, hR.2.2.2.2.2⟩
  · have hk : k < h.length + 1 := by
      have := (List.getElem?_eq_some_iff.mp hq).1
      simpa [m_W] using this
    simp only [m_W, List.getElem?_mapIdx] at hq
    by_cases hkl : k < h.length
    · rw [List.getElem?_append_left hkl] at hq
      have hg : (m_W E h)[k]? = some q := by simp only [m_W, List.getElem?_mapIdx]; exact hq
      have h9 := hR.1 k q hg
      exact h9.kept (ho _ h9.lt)
    · have hke : k = h.length := by omega
      subst hke
      rw [List.getElem?_append_right (Nat.le_refl _)] at hq
      simp at hq
      subst hq
      have ea : m_ad E h.length = H.size := by simp [m_ad, hlen, e0]
      rw [ea]
      exact hx
  · rw [ho q (by omega)]; exact hR.2.2.2.1 q hq
def m_df : FieldType → Value
  | .int | .boolean | .byte | .char | .short => .int 0
  | .long => .long 0
  | .float => .float 0
  | .double => .double 0
  | _ => .null
/-- a new object -/
theorem m_J_new {ci N : Nat} {fs : List Value} (hM : m_okM M = true) (hf : (m_tb M).lookup pc = some (.new i, t)) (hw : m_nw M.1.cls i ci = true) (hN : (m_cl.getD ci (RX0, TX0, 2)).2.2 = N) (hfs : fs = (List.range N).map (fun k => defaultValue (m_tyf ci k))) (hnr : (List.range N).all (fun k => match defaultValue (m_tyf ci k) with
      | .ref _ => false
      | _ => true) = true) (hlen : h.length < 1000000) (hc : kc + 1 ≤ mc) (hs : ks + N ≤ ms)
    (hJ : m_J l EX E M d mc ms PR PX true (kc + 1) (ks + N) (pc + 3, L, .ref h.length :: st, h ++ [.inr (ci, fs)])) : m_J l EX E M d mc ms PR PX true kc ks (pc, L, st, h) := by
  obtain ⟨n, hd1, hn1, -, -⟩ := m_dec hM hf
  have hd : decode M.2.1 pc = .ok (.new i, 3) := by rw [hd1, hn1 rfl]; rfl
  unfold m_nw at hw
  cases hq : m_cl[ci]? with
  | none => rw [hq] at hw; cases hw
  | some r =>
    rw [hq] at hw
    simp only [Bool.and_eq_true] at hw
    rw [List.getD_eq_getElem?_getD, hq] at hN
    have hN : r.2.2 = N := hN
    obtain ⟨C, TT, N'⟩ := r
    dsimp only at hN hw
    subst hN
    obtain ⟨hty, hnm, hin⟩ := m_cl_spec hq
    intro p e s m args below meth c H locs ls hX hR hz1 hz2 hlo hL
    have hKn := hX.2.2.2.2.2.2.1.1 ci _ hq
    have e0 : H.size = E.1 + h.length := Nat.le_antisymm (hR.2.2.1 rfl) hR.2.1
    refine W.newcK hX.1 hX.2.1 hX.2.2.2.2.1 (hX.2.2.2.2.2.1 _ (m_in_mem hw.1.1)) (hX.2.2.2.2.2.1 _ (m_in_mem hw.1.2)) (hX.2.2.2.2.2.1 _ (m_in_mem hw.2)) rfl hd hc hs hKn.2.1 rfl fun H1 kC hkC e1 z1 o1 => ?_
    have ea : m_ad E h.length = H.size := by simp [m_ad, hlen, e0]
    have hx : va_at E.2.2.1 m_cl (H.size, m_c E (.inr (ci, fs))) H1 := by
      refine ⟨_, hq, (u_born (m_tyf ci) hX.2.2.2.2.2.1 hin hKn hkC e1 hty).to (fun j hj => ?_)⟩
      simp only [vp_V, hfs]
      have hall := List.all_eq_true.mp hnr j (List.mem_range.mpr hj)
      rw [List.getD_eq_getElem?_getD, List.getElem?_map, List.getElem?_map, List.getElem?_range hj]
      simp only [Option.map_some, Option.getD_some]
      cases hdv : defaultValue (m_tyf ci j) <;> first | rfl | (rw [hdv] at hall; cases hall)
    have hz9 : s.heap.size + kc ≤ E.1 + h.length := hz2 rfl
    have hw9 : W p l e (m_rm d mc ms) s m args below meth c H1 locs (kc + 1) (ks + N') (vx_MQ below (m_Qc E PR) (m_XC E PX) args s mc ms (fun q => E.1 ≤ q)) (F0 m (pc + 3) ls (.ref (m_ad E h.length) :: st.map (m_v E))) := hJ p e s m args below meth c H1 locs ls hX (m_R_push hR hlen z1 o1 hx) (by rw [z1]; omega) (fun _ => by rw [List.length_append]; simp; omega) hlo hL
    rw [ea] at hw9
    exact hw9
/-- a new array of numbers -/
theorem m_J_newa {at0 : ArrayType} {ti N : Nat} {n : Int32} {a0 : vp_A} (hM : m_okM M = true) (hf : (m_tb M).lookup pc = some (.newarray at0, t)) (hw : m_in (.arrayClass (newarray.typeOf at0)) = true) (hti : m_ty[ti]? = some (newarray.typeOf at0)) (ha : ∀ cA : ClassId, vp_cell cA a0 = arrV cA N (fun _ => defaultValue (newarray.typeOf at0)))
    (hac : m_c E (.inl (ti, a0)) = .inl (E.2.2.2.1 ti, a0)) (hn : ¬ n < 0) (hN : n.toNatClampNeg = N) (hbytes : N * componentBytes (newarray.typeOf at0) ≤ 536870912) (hprim : ∀ U cA, va_RA U cA (newarray.typeOf at0) → U.vm.findClass ("[" ++ (newarray.typeOf at0).toString) = some cA) (hlen : h.length < 1000000) (hc : kc + 1 ≤ mc) (hs : ks + N ≤ ms)
    (hJ : m_J l EX E M d mc ms PR PX true (kc + 1) (ks + N) (pc + 2, L, .ref h.length :: st, h ++ [.inl (ti, a0)])) : m_J l EX E M d mc ms PR PX true kc ks (pc, L, .int n :: st, h) := by
  obtain ⟨n9, hd1, hn1, -, -⟩ := m_dec hM hf
  have hd : decode M.2.1 pc = .ok (.newarray at0, 2) := by rw [hd1, hn1 rfl]; rfl
  intro p e s m args below meth c H locs ls hX hR hz1 hz2 hlo hL
  have e0 : H.size = E.1 + h.length := Nat.le_antisymm (hR.2.2.1 rfl) hR.2.1
  refine va_newaK hX.1 hX.2.1 (hX.2.2.2.2.2.1 _ (m_in_mem hw)) rfl hd rfl hn hN hbytes hc hs rfl fun H1 cA e1 z1 o1 hAr hNm => ?_
  have ea : m_ad E h.length = H.size := by simp [m_ad, hlen, e0]
  have hcA : E.2.2.2.1 ti = cA := Option.some.inj ((hprim s _ (hX.2.2.2.2.2.2.1.2 ti _ (m_tys_get E hti)).2).symm.trans hNm)
  have hx : va_at E.2.2.1 m_cl (H.size, m_c E (.inl (ti, a0))) H1 := by
    rw [hac, hcA]
    show H1[H.size]? = some (vp_cell cA a0)
    rw [ha]
    exact e1
  have hz9 : s.heap.size + kc ≤ E.1 + h.length := hz2 rfl
  have hw9 : W p l e (m_rm d mc ms) s m args below meth c H1 locs (kc + 1) (ks + N) (vx_MQ below (m_Qc E PR) (m_XC E PX) args s mc ms (fun q => E.1 ≤ q)) (F0 m (pc + 2) ls (.ref (m_ad E h.length) :: st.map (m_v E))) := hJ p e s m args below meth c H1 locs ls hX (m_R_push hR hlen z1 o1 hx) (by rw [z1]; omega) (fun _ => by rw [List.length_append]; simp; omega) hlo hL
  rw [ea] at hw9
  exact hw9
end
end
section
/-! SEVERAL STEPS AT ONCE -/
def m_run (M : mM) : Nat → mS → Option (mS × Prop)
  | 0, S => some (S, True)
  | n + 1, S => match m_step M S with
    | none => none
    | some (S', C) => match m_run M n S' with
      | none => none
      | some (S'', C') => some (S'', C ∧ C')
theorem m_J_run {l : Launch} {EX : State → Prop} {E : mE} {M : mM} {d mc ms : Nat} {PR : Option Value → mH → Bool → Prop} {PX : String → mH → Prop} {tg : Bool} {kc ks : Nat} (hM : m_okM M = true) : ∀ (n : Nat) {S S' : mS} {CC : Prop}, m_run M n S = some (S', CC) → CC → m_J l EX E M d mc ms PR PX tg kc ks S' → m_J l EX E M d mc ms PR PX tg kc ks S := by
  intro n
  induction n with
  | zero =>
    intro S S' CC hs _ hJ
    cases hs
    exact hJ
  | succ n ih =>
    intro S S' CC hs hC hJ
    unfold m_run at hs
    split at hs
    · cases hs
    · rename_i S1 C1 h1
      split at hs
      · cases hs
      · rename_i S2 C2 h2
        cases hs
        exact m_J_step hM h1 hC.1 (ih h2 hC.2 hJ)
section
variable {l : Launch} {EX : State → Prop} {E : mE} {M : mM} {d mc ms : Nat} {PR : Option Value → mH → Bool → Prop} {PX : String → mH → Prop} {tg : Bool} {kc ks : Nat} {pc t : Nat} {L : List (Option Value)} {h : mH} {r : List Value} {a i : Nat}
theorem m_J_getf {c k n : Nat} {fs : List Value} {v : Value} (hM : m_okM M = true) (hf : (m_tb M).lookup pc = some (.getfield i, t)) (hft : m_FT.lookup (M.2.2.2.2.2.1, i) = some (c, k, n)) (hh : h[a]? = some (.inr (c, fs))) (hv : fs[k]? = some v) (hJ : m_J l EX E M d mc ms PR PX tg kc ks (pc + 3, L, v :: r, h)) : m_J l EX E M d mc ms PR PX tg kc ks (pc, L, .ref a :: r, h) := by
  refine m_J_step (CC := True) hM ?_ trivial hJ
  simp only [m_step, hf, m_ins, hft, hh, hv, beq_self_eq_true, cond_true]
theorem m_J_putf {c k n : Nat} {fs : List Value} {v : Value} (hM : m_okM M = true) (hf : (m_tb M).lookup pc = some (.putfield i, t)) (hft : m_FT.lookup (M.2.2.2.2.2.1, i) = some (c, k, n)) (hh : h[a]? = some (.inr (c, fs))) (hok : (Nat.blt k fs.length && m_fit (m_tyf c k) v && !(m_fin c k)) = true) (hJ : m_J l EX E M d mc ms PR PX tg kc ks (pc + 3, L, r, h.set a (.inr (c, fs.set k v)))) : m_J l EX E M d mc ms PR PX tg kc ks (pc, L, v :: .ref a :: r, h) := by
  refine m_J_step (CC := True) hM ?_ trivial hJ
  simp only [Bool.and_eq_true] at hok
  simp only [m_step, hf, m_ins, hft, hh, hok.1.1, hok.1.2, hok.2, beq_self_eq_true, Bool.and_true, Bool.true_and, Bool.true_or, cond_true]
theorem m_J_iald {n : Nat} {f : Nat → Int32} {j : Int32} (hM : m_okM M = true) (hf : (m_tb M).lookup pc = some (.iaload, t)) (hh : h[a]? = some (.inl (0, n, .inl f))) (hin : vp_in j n) (hJ : m_J l EX E M d mc ms PR PX tg kc ks (pc + 1, L, .int (f j.toNatClampNeg) :: r, h)) : m_J l EX E M d mc ms PR PX tg kc ks (pc, L, .int j :: .ref a :: r, h) := by
  refine m_J_step hM ?_ hin hJ
  simp only [m_step, hf, m_ins, hh]
theorem m_J_bald {n : Nat} {f : Nat → Int32} {j : Int32} (hM : m_okM M = true) (hf : (m_tb M).lookup pc = some (.baload, t)) (hh : h[a]? = some (.inl (2, n, .inl f))) (hin : vp_in j n) (hJ : m_J l EX E M d mc ms PR PX tg kc ks (pc + 1, L, .int (f j.toNatClampNeg) :: r, h)) : m_J l EX E M d mc ms PR PX tg kc ks (pc, L, .int j :: .ref a :: r, h) := by
  refine m_J_step hM ?_ hin hJ
  simp only [m_step, hf, m_ins, hh]
theorem m_J_zald {n : Nat} {f : Nat → Int32} {j : Int32} (hM : m_okM M = true) (hf : (m_tb M).lookup pc = some (.baload, t)) (hh : h[a]? = some (.inl (3, n, .inl f))) (hin : vp_in j n) (hJ : m_J l EX E M d mc ms PR PX tg kc ks (pc + 1, L, .int (f j.toNatClampNeg) :: r, h)) : m_J l EX E M d mc ms PR PX tg kc ks (pc, L, .int j :: .ref a :: r, h) := by
  refine m_J_step hM ?_ hin hJ
  simp only [m_step, hf, m_ins, hh]
theorem m_J_lald {n : Nat} {f : Nat → Int64} {j : Int32} (hM : m_okM M = true) (hf : (m_tb M).lookup pc = some (.laload, t)) (hh : h[a]? = some (.inl (1, n, .inr (.inl f)))) (hin : vp_in j n) (hJ : m_J l EX E M d mc ms PR PX tg kc ks (pc + 1, L, .long (f j.toNatClampNeg) :: r, h)) : m_J l EX E M d mc ms PR PX tg kc ks (pc, L, .int j :: .ref a :: r, h) := by
  refine m_J_step hM ?_ hin hJ
  simp only [m_step, hf, m_ins, hh]
theorem m_J_aald {n ti : Nat} {f : Nat → Option Nat} {j : Int32} (hM : m_okM M = true) (hf : (m_tb M).lookup pc = some (.aaload, t)) (hh : h[a]? = some (.inl (ti, n, .inr (.inr (.inr (.inr f)))))) (hti : (Nat.ble 4 ti && Nat.ble ti 6) = true) (hin : vp_in j n) (hJ : m_J l EX E M d mc ms PR PX tg kc ks (pc + 1, L, m_rf (f j.toNatClampNeg) :: r, h)) : m_J l EX E M d mc ms PR PX tg kc ks (pc, L, .int j :: .ref a :: r, h) := by
  refine m_J_step hM ?_ hin hJ
  simp only [m_step, hf, m_ins, hh, hti, cond_true]
theorem m_J_iast {n : Nat} {f : Nat → Int32} {j x : Int32} (hM : m_okM M = true) (hf : (m_tb M).lookup pc = some (.iastore, t)) (hh : h[a]? = some (.inl (0, n, .inl f))) (hin : vp_in j n) (hJ : m_J l EX E M d mc ms PR PX tg kc ks (pc + 1, L, r, h.set a (.inl (0, n, .inl (upd f j.toNatClampNeg x))))) : m_J l EX E M d mc ms PR PX tg kc ks (pc, L, .int x :: .int j :: .ref a :: r, h) := by
  refine m_J_step hM ?_ hin hJ
  simp only [m_step, hf, m_ins, hh]
theorem m_J_bast {n : Nat} {f : Nat → Int32} {j x : Int32} (hM : m_okM M = true) (hf : (m_tb M).lookup pc = some (.bastore, t)) (hh : h[a]? = some (.inl (2, n, .inl f))) (hin : vp_in j n) (hJ : m_J l EX E M d mc ms PR PX tg kc ks (pc + 1, L, r, h.set a (.inl (2, n, .inl (upd f j.toNatClampNeg (vp_nar .byte x)))))) : m_J l EX E M d mc ms PR PX tg kc ks (pc, L, .int x :: .int j :: .ref a :: r, h) := by
  refine m_J_step hM ?_ hin hJ
  simp only [m_step, hf, m_ins, hh]
theorem m_J_zast {n : Nat} {f : Nat → Int32} {j x : Int32} (hM : m_okM M = true) (hf : (m_tb M).lookup pc = some (.bastore, t)) (hh : h[a]? = some (.inl (3, n, .inl f))) (hin : vp_in j n) (hJ : m_J l EX E M d mc ms PR PX tg kc ks (pc + 1, L, r, h.set a (.inl (3, n, .inl (upd f j.toNatClampNeg (vp_nar .boolean x)))))) : m_J l EX E M d mc ms PR PX tg kc ks (pc, L, .int x :: .int j :: .ref a :: r, h) := by
  refine m_J_step hM ?_ hin hJ
  simp only [m_step, hf, m_ins, hh]
theorem m_J_last {n : Nat} {f : Nat → Int64} {j : Int32} {x : Int64} (hM : m_okM M = true) (hf : (m_tb M).lookup pc = some (.lastore, t)) (hh : h[a]? = some (.inl (1, n, .inr (.inl f)))) (hin : vp_in j n) (hJ : m_J l EX E M d mc ms PR PX tg kc ks (pc + 1, L, r, h.set a (.inl (1, n, .inr (.inl (vp_updL f j.toNatClampNeg x)))))) : m_J l EX E M d mc ms PR PX tg kc ks (pc, L, .long x :: .int j :: .ref a :: r, h) := by
  refine m_J_step hM ?_ hin hJ
  simp only [m_step, hf, m_ins, hh]
theorem m_J_alen {n ti : Nat} {f : Nat → Int32} (hM : m_okM M = true) (hf : (m_tb M).lookup pc = some (.arraylength, t)) (hh : h[a]? = some (.inl (ti, n, .inl f))) (hti : (ti == 0 || ti == 2) = true) (hJ : m_J l EX E M d mc ms PR PX tg kc ks (pc + 1, L, .int (Int32.ofNat n) :: r, h)) : m_J l EX E M d mc ms PR PX tg kc ks (pc, L, .ref a :: r, h) := by
  refine m_J_step (CC := True) hM ?_ trivial hJ
  simp only [m_step, hf, m_ins, hh, hti, cond_true]
/-- a branch -/
theorem m_J_if {c : Prop} {hdc : Decidable c} {S1 S2 : mS} (h1 : c → m_J l EX E M d mc ms PR PX tg kc ks S1) (h2 : ¬ c → m_J l EX E M d mc ms PR PX tg kc ks S2) : m_J l EX E M d mc ms PR PX tg kc ks (if c then S1 else S2) := by
  by_cases hc : c
  · rw [if_pos hc]; exact h1 hc
  · rw [if_neg hc]; exact h2 hc
end
end
section
/-! WHAT LIES OUTSIDE: the script, the constants of text, statics; throws and catches -/
def m_strs : List (String × Nat × String) := [("LandUses", 255, "no such square"), ("LandUses", 99, "no such use"), ("LandUses", 117, "no such soil"), ("LandUses$Reader", 51, "law"), ("LandUses$Reader", 121, "wild"), ("LandUses$Reader", 123, "homes"), ("LandUses$Reader", 125, "works"), ("LandUses$Reader", 127, "farms"), ("LandUses$Reader", 129, "woods"), ("LandUses$Reader", 102, "apart"), ("LandUses$Reader", 104, "least"), ("LandUses$Reader", 106, "most"), ("LandUses$Reader", 108, "joined"), ("LandUses$Reader", 60, "grow"), ("LandUses$Reader", 110, "to"), ("LandUses$Reader", 119, "when"), ("LandUses$Reader", 86, "near"), ("LandUses$Reader", 77, "minus"), ("LandUses$Reader", 97, "on"), ("LandUses", 141, "the text is wrong"), ("LandUses", 253, "no such line"), ("LandUses", 163, "not 0 to 20 years"), ("LandUses", 182, "there is no best"), ("LandUses", 198, "the line is no law"), ("LandUses", 216, "no such thing to look at"), ("LandUses", 250, "no such plan"), ("LandUsesModel", 191, "law"), ("LandUsesModel", 152, "wild"), ("LandUsesModel", 154, "homes"), ("LandUsesModel", 156, "works"), ("LandUsesModel", 158, "farms"), ("LandUsesModel", 160, "woods"), ("LandUsesModel", 177, "joined"), ("LandUsesModel", 179, "apart"), ("LandUsesModel", 181, "least"), ("LandUsesModel", 182, "most"), ("LandUsesModel", 196, "grow"), ("LandUsesModel", 184, "to"), ("LandUsesModel", 189, "when"), ("LandUsesModel", 170, "near"), ("LandUsesModel", 165, "minus"), ("LandUsesModel", 175, "on")]
/-- a text's letters -/
def m_tx (i : Nat) : List Nat := ((m_strs.getD i ("", 0, "")).2.2.toList).map Char.toNat
def m_exc : List String := ["java/lang/IndexOutOfBoundsException", "java/lang/IllegalArgumentException", "java/util/NoSuchElementException"]
def m_EX (E : mE) (N : Nat) (xs : Nat → Int32) (U : State) : Prop :=
  (∀ i q, m_strs[i]? = some q → vk_R q.1 q.2.1 q.2.2 (E.2.1 (1000001 + i)) U) ∧
  vx_Zq Bundle.tN "UNASSIGNED_STACK" Bundle.steD (fun q => E.1 ≤ q) U E.2.2.2.2 ∧ vx_Zq Bundle.tN "SUPPRESSED_SENTINEL" Bundle.listD (fun q => E.1 ≤ q) U E.2.2.2.2 ∧
  (∀ ty ∈ ([.object "LandUses$Line", .object "LandUses$Uses", .array .long] : List FieldType), (Cond.arrayOver ty).before #[] U = true) ∧
  (∀ a ∈ m_exc, ∀ b ∈ m_exc, a ≠ b → va_Nc a b U) ∧
  va_X (E.2.1 1000000) N xs U E.2.2.2.2 ∧ E.2.1 1000000 < E.1 ∧
  (∀ i, i < 42 → va_O "java/lang/String" (E.2.1 (1000001 + i)) (fun q => E.1 ≤ q) U E.2.2.2.2 ∧ va_OF "java/lang/String" "coder" "B" (.int 0) (E.2.1 (1000001 + i)) (fun q => E.1 ≤ q) U E.2.2.2.2 ∧ va_OF "java/lang/String" "value" "[B" (.ref (E.2.1 (2000001 + i))) (E.2.1 (1000001 + i)) (fun q => E.1 ≤ q) U E.2.2.2.2 ∧ va_T .byte (E.2.1 (2000001 + i)) (m_tx i).length (fun j => .int (nI ((m_tx i).getD j 0))) (fun q => E.1 ≤ q) U E.2.2.2.2) ∧
  va_Z "java/lang/String" "COMPACT_STRINGS" "Z" (.int 1) (fun q => E.1 ≤ q) U E.2.2.2.2 ∧
  (va_Z "jdk/internal/util/Preconditions" "SIOOBE_FORMATTER" "Ljava/util/function/BiFunction;" .null (fun q => E.1 ≤ q) U E.2.2.2.2 ∨ va_Z "jdk/internal/util/Preconditions" "SIOOBE_FORMATTER" "Ljava/util/function/BiFunction;" (.ref (E.2.1 3000000)) (fun q => E.1 ≤ q) U E.2.2.2.2)
theorem m_EX_warm (E : mE) (N : Nat) (xs : Nat → Int32) : ∀ s U : State, s.WarmedH U.vm → m_EX E N xs s → m_EX E N xs U := by
  intro s U hW h
  obtain ⟨h1, h2, h3, h4, h5, h6, h7, h8, h9, h10⟩ := h
  refine ⟨fun i q hq => (h1 i q hq).warm hW, h2.moved hW.alike, h3.moved hW.alike, fun ty hty => ?_, fun a ha b hb hn => (h5 a ha b hb hn).moved hW.alike, h6.moved hW.alike, h7, fun i hi => ?_, h9.moved hW.alike, h10.imp (fun h => h.moved hW.alike) (fun h => h.moved hW.alike)⟩
  · have h0 := h4 ty hty
    rcases List.mem_cons.mp hty with rfl | hty
    · exact va_AO.moved hW.alike h0
    · rcases List.mem_cons.mp hty with rfl | hty
      · exact va_AO.moved hW.alike h0
      · rcases List.mem_cons.mp hty with rfl | hty
        · exact arrayOver_alikeB hW.alike h0
        · cases hty
  · obtain ⟨a1, a2, a3, a4⟩ := h8 i hi
    exact ⟨a1.moved hW.alike, a2.moved hW.alike, a3.moved hW.alike, a4.moved hW.alike⟩
section
variable {l : Launch} {E : mE} {N : Nat} {xs : Nat → Int32} {M : mM} {d mc ms : Nat} {PR : Option Value → mH → Bool → Prop} {PX : String → mH → Prop} {tg : Bool} {kc ks : Nat} {pc t : Nat} {L : List (Option Value)} {h : mH} {rest : List Value}
set_option maxHeartbeats 1000000 in
theorem m_J_throw {ik is ic si t0 t1 t2 t3 t4 : Nat} {nm text : String} (hl : l.stackTraces = false) (hM : m_okM M = true) (hh : M.2.2.2.2.1 = []) (f0 : (m_tb M).lookup pc = some (.new ik, t0)) (f3 : (m_tb M).lookup (pc + 3) = some (.dup, t1)) (f4 : (m_tb M).lookup (pc + 4) = some (.ldc is, t2)) (f6 : (m_tb M).lookup (pc + 6) = some (.invokespecial ic, t3)) (f9 : (m_tb M).lookup (pc + 9) = some (.athrow, t4))
    (hs9 : m_strs[si]? = some (M.1.cls, is, text)) (hw : m_tw M.1.cls ik ic nm = true) (hrs : (rest.map fun v => v.category).sum ≤ 40) (hc : kc + 1 ≤ mc) (hs : ks + 6 ≤ ms) (hp : PX nm h) : m_J l (m_EX E N xs) E M d mc ms PR PX tg kc ks (pc, L, rest, h) := by
  have hd : ∀ {pc : Nat} {i : Instr} {t : Nat}, (m_tb M).lookup pc = some (i, t) → m_sw i = false → decode M.2.1 pc = .ok (i, m_len i) := by
    intro pc i t hf hsw
    obtain ⟨n, hd1, hn1, -, -⟩ := m_dec hM hf
    rw [hd1, hn1 hsw]
  simp only [m_tw, Bool.and_eq_true] at hw
  obtain ⟨⟨⟨⟨⟨w1, w2⟩, w3⟩, w4⟩, w5⟩, w6⟩ := hw
  intro p e s m args below meth c H locs ls hX hR hz1 hz2 hlo hL
  obtain ⟨x1, x2, x3, x4, x5, x6, x7, x8, x9, x10, x11, x12, x13⟩ := hX
  have hkeep : ∀ a : Nat, a < E.2.2.2.2.size → ¬ E.1 ≤ a → s.heap[a]? = E.2.2.2.2[a]? := fun a _ hn => x13 a (by omega)
  have hS : va_S (fun q => E.1 ≤ q) s.heap H locs := ⟨hz1, fun q h1 h2 => by rw [hR.2.2.2.1 q (by omega), x13 q (by omega)], hlo⟩
  refine vx_throwS (names := ["java/lang/RuntimeException", "java/lang/Exception"]) (text := text) x1 x2 hl x5 w4 (by decide +kernel) (x6 _ (m_in_mem w1)) (x6 _ (m_in_mem w2)) (x11.1 si _ hs9) (fun w hw => x6 _ (m_in_mem ?_)) (fun w hw => ?_) (x11.2.1.kept hkeep) (x11.2.2.1.kept hkeep) hS (hL.1.trans x4.symm) (hd f0 rfl) (hd f3 rfl) (hd f4 rfl) (hd f6 rfl) (hd f9 rfl) (fun x hx => ?_) (by simp [m_rm]; omega) ?_ hc hs x8 (fun t ht hz ho => ⟨⟨h, hp, ?_⟩, Nat.le_trans hz1 hz⟩) hlo hc hs
  · have := List.all_eq_true.mp w3 w hw
    simp only [Bool.and_eq_true] at this
    exact this.1
  · rcases List.mem_cons.mp hw with rfl | hw
    · exact w5
    · rcases List.mem_cons.mp hw with rfl | hw
      · exact w6
      · have := List.all_eq_true.mp w3 w hw
        simp only [Bool.and_eq_true] at this
        exact this.2
  · rw [x10, hh] at hx; cases hx
  · have e0 : (rest.map (m_v E)).map (fun v => v.category) = rest.map (fun v => v.category) := by rw [List.map_map]; exact List.map_congr_left (fun v _ => m_cat E v)
    show ((rest.map (m_v E)).map fun v => v.category).sum + _ ≤ _
    rw [e0]; simp [m_rm]; omega
  · have e9 : m_R E false h H := ⟨hR.1, hR.2.1, (fun h => by cases h), hR.2.2.2.1, hR.2.2.2.2⟩
    refine ⟨fun k q hq => ?_, Nat.le_trans hR.2.1 hz, (fun h => by cases h), fun q hq => ?_, hR.2.2.2.2⟩
    · have h9 := hR.1 k q hq
      exact h9.kept (ho _ h9.lt)
    · rw [ho q (by have := hR.2.1; omega)]; exact hR.2.2.2.1 q hq
set_option maxHeartbeats 1000000 in
/-- a handler: store, a number, return -/
theorem m_JX_catch {EX : State → Prop} {nm cn : String} {pre suf : List (Nat × Nat × Nat × Nat)} {sp ep hp ct k t1 t2 t3 pv : Nat} {v : Int32} {n : Int} (hM : m_okM M = true) (hE : ∀ U, EX U → m_EX E N xs U) (hh : M.2.2.2.2.1 = pre ++ (sp, ep, hp, ct) :: suf) (hcov : Nat.ble sp pc && Nat.blt pc ep = true) (hnm : nm ∈ m_exc) (hct : ct ≠ 0)
    (hpre : ∀ q ∈ pre, q.2.2.2 ≠ 0 ∧ ∃ x ∈ m_exc, x ≠ nm ∧ m_in (.classLink M.1.cls q.2.2.2 x) = true) (hlk : m_in (.classLink M.1.cls ct cn) = true) (hcast : m_in (.castable nm cn) = true)
    (f0 : (m_tb M).lookup hp = some (.astore k, t1)) (f1 : (m_tb M).lookup (hp + 2) = some (.iconst n, t2)) (f2 : (m_tb M).lookup (hp + 3) = some (.ireturn, t3)) (hk : k < M.2.2.1) (hv : Int32.ofInt n = v) (hr : M.2.2.2.1 = some .int) (hc : kc ≤ mc) (hs : ks ≤ ms) (hpr : PR (some (.int v)) h false) : m_JX l EX E M d mc ms PR PX kc ks nm pc L h := by
  have hd : ∀ {pc : Nat} {i : Instr} {t : Nat}, (m_tb M).lookup pc = some (i, t) → m_sw i = false → decode M.2.1 pc = .ok (i, m_len i) := by
    intro pc i t hf hsw
    obtain ⟨n, hd1, hn1, -, -⟩ := m_dec hM hf
    rw [hd1, hn1 hsw]
  intro p e s m args below meth c H locs ls q ce rest hX hR hz1 hlo hL hq hcv hcl
  obtain ⟨x1, x2, x3, x4, x5, x6, x7, x8, x9, x10, x11, x12, x13⟩ := hX
  have hx11 := hE s x11
  simp only [Bool.and_eq_true] at hcov
  refine vx_catch (own := M.1.cls) (name := cn) (E := nm) (ce := ce) x5 (tableOf pre) { startPc := sp, endPc := ep, handlerPc := hp, catchType := ct } (tableOf suf) (by rw [x10, hh]; simp [tableOf]) (fun z hz => ?_) ?_ hct (x6 _ (m_in_mem hlk)) (x6 _ (m_in_mem hcast)) hq hcv hcl ?_
  · simp only [tableOf, List.mem_map] at hz
    obtain ⟨w, hw, rfl⟩ := hz
    obtain ⟨a1, x, hx, hxn, hxl⟩ := hpre w hw
    exact Or.inr ⟨a1, x, x6 _ (m_in_mem hxl), hx11.2.2.2.2.1 nm hnm x hx (Ne.symm hxn)⟩
  · simp only [covers, Bool.and_eq_true, decide_eq_true_eq]
    refine ⟨?_, ?_⟩
    · simpa using hcov.1
    · simpa [Nat.blt_eq] using hcov.2
  · refine lv_astore x1 x2 (hd f0 rfl) (m_al_has hL) hk rfl (fun ls2 h2 => ?_)
    refine lv_iconst x1 x2 (hd f1 rfl) hv ?_
    refine W.widen (k := mc) (n := ms) hc hs (vx_ret ?_)
    exact W.zret x1 x2 (x3.trans hr) rfl (fun t ht _ => ⟨⟨some (.int v), h, false, rfl, hpr, by rw [ht]; exact hR⟩, by rw [ht]; exact hz1⟩) hlo (hd f2 rfl) x8
/-- the heap below the base is as at the start -/
theorem m_keep {p : Program} {s : State} {m : MethodId} {args : Array Value} {meth : Method} {c : Code} {EX : State → Prop} (hX : m_X EX E M p s m args meth c) : ∀ a : Nat, a < E.2.2.2.2.size → ¬ E.1 ≤ a → s.heap[a]? = E.2.2.2.2[a]? := fun a _ hn => hX.2.2.2.2.2.2.2.2.2.2.2.2 a (by omega)
theorem m_S {p : Program} {s : State} {m : MethodId} {args : Array Value} {meth : Method} {c : Code} {EX : State → Prop} {H : Heap} {locs : List Loc} (hX : m_X EX E M p s m args meth c) (hR : m_R E tg h H) (hz1 : s.heap.size ≤ H.size) (hlo : ∀ q ∈ locs, E.1 ≤ q.base) : va_S (fun q => E.1 ≤ q) s.heap H locs :=
  ⟨hz1, fun q _ h2 => by rw [hR.2.2.2.1 q (by omega), hX.2.2.2.2.2.2.2.2.2.2.2.2 q (by omega)], hlo⟩
theorem m_dec1 (hM : m_okM M = true) {pc : Nat} {i : Instr} {t : Nat} (hf : (m_tb M).lookup pc = some (i, t)) (hsw : m_sw i = false) : decode M.2.1 pc = .ok (i, m_len i) := by
  obtain ⟨n, hd1, hn1, -, -⟩ := m_dec hM hf
  rw [hd1, hn1 hsw]
theorem m_va_O_kept {o : String} {t : Nat} {A : Nat → Prop} {U : State} {H H1 : Heap} (h : va_O o t A U H) (hq : ∀ a : Nat, a < H.size → ¬ A a → H1[a]? = H[a]?) : va_O o t A U H1 := by
  obtain ⟨cell, h1, h2⟩ := h
  exact ⟨cell, (hq t (Array.getElem?_eq_some_iff.mp h1).1 h2.2.2).trans h1, h2⟩
theorem m_va_T_kept {ty : FieldType} {t N : Nat} {f : Nat → Value} {A : Nat → Prop} {U : State} {H H1 : Heap} (h : va_T ty t N f A U H) (hq : ∀ a : Nat, a < H.size → ¬ A a → H1[a]? = H[a]?) : va_T ty t N f A U H1 := by
  obtain ⟨cell, h1, h2⟩ := h
  exact ⟨cell, (hq t (Array.getElem?_eq_some_iff.mp h1).1 h2.2.2.2.2.2).trans h1, h2⟩
theorem m_va_Z_kept {C n d : String} {v : Value} {A : Nat → Prop} {U : State} {H H1 : Heap} (h : va_Z C n d v A U H) (hq : ∀ a : Nat, a < H.size → ¬ A a → H1[a]? = H[a]?) : va_Z C n d v A U H1 := by
  obtain ⟨cf, kf, fi, f, a, cell, h1, h2, h3, h4, h5, h6, h7, h8⟩ := h
  exact ⟨cf, kf, fi, f, a, cell, h1, h2, h3, h4, (hq a (Array.getElem?_eq_some_iff.mp h5).1 h8).trans h5, h6, h7, h8⟩
theorem m_J_ldcS {is si : Nat} {text : String} (hM : m_okM M = true) (hf : (m_tb M).lookup pc = some (.ldc is, t)) (hs9 : m_strs[si]? = some (M.1.cls, is, text)) (hJ : m_J l (m_EX E N xs) E M d mc ms PR PX tg kc ks (pc + 2, L, .ref (1000001 + si) :: rest, h)) : m_J l (m_EX E N xs) E M d mc ms PR PX tg kc ks (pc, L, rest, h) := by
  intro p e s m args below meth c H locs ls hX hR hz1 hz2 hlo hL T hT X
  have hw : W p l e (m_rm d mc ms) s m args below meth c H locs kc ks (vx_MQ below (m_Qc E PR) (m_XC E PX) args s mc ms (fun q => E.1 ≤ q)) (F0 m (pc + 2) ls (.ref (E.2.1 (1000001 + si)) :: rest.map (m_v E))) := by
    have h0 := hJ p e s m args below meth c H locs ls hX hR hz1 hz2 hlo hL
    have ea : m_ad E (1000001 + si) = E.2.1 (1000001 + si) := by unfold m_ad; rw [if_neg (by omega)]
    have h1 : W p l e (m_rm d mc ms) s m args below meth c H locs kc ks (vx_MQ below (m_Qc E PR) (m_XC E PX) args s mc ms (fun q => E.1 ≤ q)) (F0 m (pc + 2) ls (.ref (m_ad E (1000001 + si)) :: rest.map (m_v E))) := h0
    rwa [ea] at h1
  obtain ⟨t2, a1, b1⟩ := hw T hT X
  have hZ := hX.2.2.2.2.2.2.2.2.2.2.1.1 si _ hs9
  exact ⟨t2, X.ldcString hX.1 hX.2.2.2.2.1 (text := text) (a := E.2.1 (1000001 + si)) hZ.1 hZ.2 (g := F0 m pc ls (rest.map (m_v E))) rfl (by rw [hX.2.1]; exact m_dec1 hM hf rfl) t2 a1, b1⟩
theorem m_ext {k : Nat} (hk : 1000000 ≤ k) : m_ad E k = E.2.1 k := by unfold m_ad; rw [if_neg (by omega)]
/-- a text's own fields -/
theorem m_J_sval {i si : Nat} (hM : m_okM M = true) (hf : (m_tb M).lookup pc = some (.getfield i, t)) (hw : m_in (.fieldLink M.1.cls i "java/lang/String" "value" "[B") = true) (hi : si < 42) (hJ : m_J l (m_EX E N xs) E M d mc ms PR PX tg kc ks (pc + 3, L, .ref (2000001 + si) :: rest, h)) : m_J l (m_EX E N xs) E M d mc ms PR PX tg kc ks (pc, L, .ref (1000001 + si) :: rest, h) := by
  intro p e s m args below meth c H locs ls hX hR hz1 hz2 hlo hL
  have h0 : W p l e (m_rm d mc ms) s m args below meth c H locs kc ks (vx_MQ below (m_Qc E PR) (m_XC E PX) args s mc ms (fun q => E.1 ≤ q)) (F0 m (pc + 3) ls (.ref (m_ad E (2000001 + si)) :: rest.map (m_v E))) := hJ p e s m args below meth c H locs ls hX hR hz1 hz2 hlo hL
  rw [m_ext (by omega)] at h0
  show W p l e (m_rm d mc ms) s m args below meth c H locs kc ks _ (F0 m pc ls (.ref (m_ad E (1000001 + si)) :: rest.map (m_v E)))
  rw [m_ext (by omega)]
  exact vk_getf hX.1 hX.2.1 (((hX.2.2.2.2.2.2.2.2.2.2.1.2.2.2.2.2.2.2.1 si hi).2.2.1).kept (m_keep hX)) (m_S hX hR hz1 hlo) hX.2.2.2.2.1 (hX.2.2.2.2.2.1 _ (m_in_mem hw)) (fun _ h9 => h9) (m_dec1 hM hf rfl) h0
theorem m_J_scod {i si : Nat} (hM : m_okM M = true) (hf : (m_tb M).lookup pc = some (.getfield i, t)) (hw : m_in (.fieldLink M.1.cls i "java/lang/String" "coder" "B") = true) (hi : si < 42) (hJ : m_J l (m_EX E N xs) E M d mc ms PR PX tg kc ks (pc + 3, L, .int 0 :: rest, h)) : m_J l (m_EX E N xs) E M d mc ms PR PX tg kc ks (pc, L, .ref (1000001 + si) :: rest, h) := by
  intro p e s m args below meth c H locs ls hX hR hz1 hz2 hlo hL
  have h0 : W p l e (m_rm d mc ms) s m args below meth c H locs kc ks (vx_MQ below (m_Qc E PR) (m_XC E PX) args s mc ms (fun q => E.1 ≤ q)) (F0 m (pc + 3) ls (.int 0 :: rest.map (m_v E))) := hJ p e s m args below meth c H locs ls hX hR hz1 hz2 hlo hL
  show W p l e (m_rm d mc ms) s m args below meth c H locs kc ks _ (F0 m pc ls (.ref (m_ad E (1000001 + si)) :: rest.map (m_v E)))
  rw [m_ext (by omega)]
  exact vk_getf hX.1 hX.2.1 (((hX.2.2.2.2.2.2.2.2.2.2.1.2.2.2.2.2.2.2.1 si hi).2.1).kept (m_keep hX)) (m_S hX hR hz1 hlo) hX.2.2.2.2.1 (hX.2.2.2.2.2.1 _ (m_in_mem hw)) (fun _ h9 => h9) (m_dec1 hM hf rfl) h0
theorem m_J_slen {si : Nat} (hM : m_okM M = true) (hf : (m_tb M).lookup pc = some (.arraylength, t)) (hi : si < 42) (hJ : m_J l (m_EX E N xs) E M d mc ms PR PX tg kc ks (pc + 1, L, .int (nI (m_tx si).length) :: rest, h)) : m_J l (m_EX E N xs) E M d mc ms PR PX tg kc ks (pc, L, .ref (2000001 + si) :: rest, h) := by
  intro p e s m args below meth c H locs ls hX hR hz1 hz2 hlo hL
  have h0 : W p l e (m_rm d mc ms) s m args below meth c H locs kc ks (vx_MQ below (m_Qc E PR) (m_XC E PX) args s mc ms (fun q => E.1 ≤ q)) (F0 m (pc + 1) ls (.int (nI (m_tx si).length) :: rest.map (m_v E))) := hJ p e s m args below meth c H locs ls hX hR hz1 hz2 hlo hL
  show W p l e (m_rm d mc ms) s m args below meth c H locs kc ks _ (F0 m pc ls (.ref (m_ad E (2000001 + si)) :: rest.map (m_v E)))
  rw [m_ext (by omega)]
  exact va_tlen hX.1 hX.2.1 (m_va_T_kept (hX.2.2.2.2.2.2.2.2.2.2.1.2.2.2.2.2.2.2.1 si hi).2.2.2 (m_keep hX)) (m_S hX hR hz1 hlo) rfl (m_dec1 hM hf rfl) h0
theorem m_J_sbyt {si k : Nat} (hM : m_okM M = true) (hf : (m_tb M).lookup pc = some (.baload, t)) (hi : si < 42) (hk : k < (m_tx si).length) (hk2 : k < 2 ^ 31) (hJ : m_J l (m_EX E N xs) E M d mc ms PR PX tg kc ks (pc + 1, L, .int (nI ((m_tx si).getD k 0)) :: rest, h)) : m_J l (m_EX E N xs) E M d mc ms PR PX tg kc ks (pc, L, .int (nI k) :: .ref (2000001 + si) :: rest, h) := by
  intro p e s m args below meth c H locs ls hX hR hz1 hz2 hlo hL
  have h0 : W p l e (m_rm d mc ms) s m args below meth c H locs kc ks (vx_MQ below (m_Qc E PR) (m_XC E PX) args s mc ms (fun q => E.1 ≤ q)) (F0 m (pc + 1) ls (.int (nI ((m_tx si).getD k 0)) :: rest.map (m_v E))) := hJ p e s m args below meth c H locs ls hX hR hz1 hz2 hlo hL
  show W p l e (m_rm d mc ms) s m args below meth c H locs kc ks _ (F0 m pc ls (.int (nI k) :: .ref (m_ad E (2000001 + si)) :: rest.map (m_v E)))
  rw [m_ext (by omega)]
  exact va_tb hX.1 hX.2.1 (m_va_T_kept (hX.2.2.2.2.2.2.2.2.2.2.1.2.2.2.2.2.2.2.1 si hi).2.2.2 (m_keep hX)) (m_S hX hR hz1 hlo) (fun hq => hq.elim (nI_pos hk2) (fun hq => by rw [nI_clamp hk2] at hq; omega)) (by rw [nI_clamp hk2]) (m_dec1 hM hf rfl) h0
theorem m_J_gcomp {i : Nat} (hM : m_okM M = true) (hf : (m_tb M).lookup pc = some (.getstatic i, t)) (hw : m_in (.fieldLink M.1.cls i "java/lang/String" "COMPACT_STRINGS" "Z") = true) (hJ : m_J l (m_EX E N xs) E M d mc ms PR PX tg kc ks (pc + 3, L, .int 1 :: rest, h)) : m_J l (m_EX E N xs) E M d mc ms PR PX tg kc ks (pc, L, rest, h) := by
  intro p e s m args below meth c H locs ls hX hR hz1 hz2 hlo hL
  have h0 : W p l e (m_rm d mc ms) s m args below meth c H locs kc ks (vx_MQ below (m_Qc E PR) (m_XC E PX) args s mc ms (fun q => E.1 ≤ q)) (F0 m (pc + 3) ls (.int 1 :: rest.map (m_v E))) := hJ p e s m args below meth c H locs ls hX hR hz1 hz2 hlo hL
  exact va_gets hX.1 hX.2.1 (m_va_Z_kept hX.2.2.2.2.2.2.2.2.2.2.1.2.2.2.2.2.2.2.2.1 (m_keep hX)) (m_S hX hR hz1 hlo) hX.2.2.2.2.1 (hX.2.2.2.2.2.1 _ (m_in_mem hw)) (fun _ h9 => h9) (m_dec1 hM hf rfl) h0
theorem m_J_gform {i : Nat} (hM : m_okM M = true) (hf : (m_tb M).lookup pc = some (.getstatic i, t)) (hw : m_in (.fieldLink M.1.cls i "jdk/internal/util/Preconditions" "SIOOBE_FORMATTER" "Ljava/util/function/BiFunction;") = true) (hJ : ∀ v, v = .null ∨ v = .ref 3000000 → m_J l (m_EX E N xs) E M d mc ms PR PX tg kc ks (pc + 3, L, v :: rest, h)) : m_J l (m_EX E N xs) E M d mc ms PR PX tg kc ks (pc, L, rest, h) := by
  intro p e s m args below meth c H locs ls hX hR hz1 hz2 hlo hL
  rcases hX.2.2.2.2.2.2.2.2.2.2.1.2.2.2.2.2.2.2.2.2 with hz | hz
  · have h0 : W p l e (m_rm d mc ms) s m args below meth c H locs kc ks (vx_MQ below (m_Qc E PR) (m_XC E PX) args s mc ms (fun q => E.1 ≤ q)) (F0 m (pc + 3) ls (.null :: rest.map (m_v E))) := hJ .null (Or.inl rfl) p e s m args below meth c H locs ls hX hR hz1 hz2 hlo hL
    exact va_gets hX.1 hX.2.1 (m_va_Z_kept hz (m_keep hX)) (m_S hX hR hz1 hlo) hX.2.2.2.2.1 (hX.2.2.2.2.2.1 _ (m_in_mem hw)) (fun _ h9 => h9) (m_dec1 hM hf rfl) h0
  · have h0 : W p l e (m_rm d mc ms) s m args below meth c H locs kc ks (vx_MQ below (m_Qc E PR) (m_XC E PX) args s mc ms (fun q => E.1 ≤ q)) (F0 m (pc + 3) ls (.ref (m_ad E 3000000) :: rest.map (m_v E))) := hJ (.ref 3000000) (Or.inr rfl) p e s m args below meth c H locs ls hX hR hz1 hz2 hlo hL
    rw [m_ext (by omega)] at h0
    exact va_gets hX.1 hX.2.1 (m_va_Z_kept hz (m_keep hX)) (m_S hX hR hz1 hlo) hX.2.2.2.2.1 (hX.2.2.2.2.2.1 _ (m_in_mem hw)) (fun _ h9 => h9) (m_dec1 hM hf rfl) h0
theorem m_J_i2c (hM : m_okM M = true) (hf : (m_tb M).lookup pc = some (.i2c, t)) {x : Int32} (hJ : m_J l (m_EX E N xs) E M d mc ms PR PX tg kc ks (pc + 1, L, .int (x.toUInt32 % 65536).toInt32 :: rest, h)) : m_J l (m_EX E N xs) E M d mc ms PR PX tg kc ks (pc, L, .int x :: rest, h) := by
  intro p e s m args below meth c H locs ls hX hR hz1 hz2 hlo hL
  exact lv_i2c hX.1 hX.2.1 (m_dec1 hM hf rfl) rfl (hJ p e s m args below meth c H locs ls hX hR hz1 hz2 hlo hL)
/-- the script -/
theorem m_J_xlen (hM : m_okM M = true) (hf : (m_tb M).lookup pc = some (.arraylength, t)) (hJ : m_J l (m_EX E N xs) E M d mc ms PR PX tg kc ks (pc + 1, L, .int (nI N) :: rest, h)) : m_J l (m_EX E N xs) E M d mc ms PR PX tg kc ks (pc, L, .ref 1000000 :: rest, h) := by
  intro p e s m args below meth c H locs ls hX hR hz1 hz2 hlo hL
  have h0 : W p l e (m_rm d mc ms) s m args below meth c H locs kc ks (vx_MQ below (m_Qc E PR) (m_XC E PX) args s mc ms (fun q => E.1 ≤ q)) (F0 m (pc + 1) ls (.int (nI N) :: rest.map (m_v E))) := hJ p e s m args below meth c H locs ls hX hR hz1 hz2 hlo hL
  show W p l e (m_rm d mc ms) s m args below meth c H locs kc ks _ (F0 m pc ls (.ref (m_ad E 1000000) :: rest.map (m_v E)))
  rw [m_ext (by omega)]
  have hx := hX.2.2.2.2.2.2.2.2.2.2.1
  exact va_slen hX.1 hX.2.1 (hx.2.2.2.2.2.1.kept (m_keep hX _ (by rw [hR.2.2.2.2.2]; exact hx.2.2.2.2.2.2.1) (by have := hx.2.2.2.2.2.2.1; omega))) (Nat.lt_of_lt_of_le hx.2.2.2.2.2.2.1 hX.2.2.2.2.2.2.2.2.2.2.2.1) (Nat.not_le.mpr hx.2.2.2.2.2.2.1) (m_S hX hR hz1 hlo) (m_dec1 hM hf rfl) h0
theorem m_J_xld {i : Int32} (hM : m_okM M = true) (hf : (m_tb M).lookup pc = some (.iaload, t)) (hin : vp_in i N) (hJ : m_J l (m_EX E N xs) E M d mc ms PR PX tg kc ks (pc + 1, L, .int (xs i.toNatClampNeg) :: rest, h)) : m_J l (m_EX E N xs) E M d mc ms PR PX tg kc ks (pc, L, .int i :: .ref 1000000 :: rest, h) := by
  intro p e s m args below meth c H locs ls hX hR hz1 hz2 hlo hL
  have h0 : W p l e (m_rm d mc ms) s m args below meth c H locs kc ks (vx_MQ below (m_Qc E PR) (m_XC E PX) args s mc ms (fun q => E.1 ≤ q)) (F0 m (pc + 1) ls (.int (xs i.toNatClampNeg) :: rest.map (m_v E))) := hJ p e s m args below meth c H locs ls hX hR hz1 hz2 hlo hL
  show W p l e (m_rm d mc ms) s m args below meth c H locs kc ks _ (F0 m pc ls (.int i :: .ref (m_ad E 1000000) :: rest.map (m_v E)))
  rw [m_ext (by omega)]
  have hx := hX.2.2.2.2.2.2.2.2.2.2.1
  exact va_sld hX.1 hX.2.1 (hx.2.2.2.2.2.1.kept (m_keep hX _ (by rw [hR.2.2.2.2.2]; exact hx.2.2.2.2.2.2.1) (by have := hx.2.2.2.2.2.2.1; omega))) (Nat.lt_of_lt_of_le hx.2.2.2.2.2.2.1 hX.2.2.2.2.2.2.2.2.2.2.2.1) (Nat.not_le.mpr hx.2.2.2.2.2.2.1) (m_S hX hR hz1 hlo) hin (m_dec1 hM hf rfl) h0
end
end
section
/-! CONTRACTS WITH ONE END: what a method answers, and the heap behind it -/
def m_K (v : Option Value) (h : mH) (tg : Bool) : Option Value → mH → Bool → Prop := fun v' h' tg' => v' = v ∧ h' = h ∧ tg' = tg
def m_no : String → mH → Prop := fun _ _ => False
def m_nr : Option Value → mH → Bool → Prop := fun _ _ _ => False
def m_th (nm : String) (h : mH) : String → mH → Prop := fun nm' h' => nm' = nm ∧ h' = h
/-- it returns v, the heap is h1 -/
abbrev m_Dt (l : Launch) (EX : State → Prop) (E : mE) (M : mM) (d mc ms : Nat) (as : List Value) (h : mH) (tg : Bool) (v : Option Value) (h1 : mH) (tg1 : Bool) : Prop := m_Sp l EX E M d mc ms as h tg (m_K v h1 tg1) m_no
/-- it throws nm, the heap is h1 -/
abbrev m_Dx (l : Launch) (EX : State → Prop) (E : mE) (M : mM) (d mc ms : Nat) (as : List Value) (h : mH) (tg : Bool) (nm : String) (h1 : mH) : Prop := m_Sp l EX E M d mc ms as h tg m_nr (m_th nm h1)
section
variable {l : Launch} {EX : State → Prop} {E : mE} {M M' : mM} {d mc ms : Nat} {PR : Option Value → mH → Bool → Prop} {PX : String → mH → Prop} {tg tg1 : Bool} {kc ks : Nat} {pc t : Nat} {L : List (Option Value)} {h h1 : mH}
variable {mc' ms' i : Nat} {as rest st : List Value} {v : Option Value} {nm : String}
theorem m_callS (hEX : ∀ s U : State, s.WarmedH U.vm → EX s → EX U) (hM : m_okM M = true) (hf : (m_tb M).lookup pc = some (.invokestatic i, t)) {n0 : Nat} (hcw : m_cwS M.1.cls i M' n0 = true) (hn0 : as.length = n0) (hsp : m_Dt l EX E M' d mc' ms' as h tg v h1 tg1) (hst : st = as.reverse ++ rest) (hrs : (rest.map fun v => v.category).sum ≤ 40) (hc : kc + mc' ≤ mc) (hs : ks + ms' ≤ ms) (htg : tg1 = true → tg = true ∧ h.length + mc' ≤ h1.length)
    (hJ : m_J l EX E M (d + 1) mc ms PR PX tg1 (kc + mc') (ks + ms') (pc + 3, L, v.toList ++ rest, h1)) : m_J l EX E M (d + 1) mc ms PR PX tg kc ks (pc, L, st, h) :=
  m_J_callS hEX hM hf hcw hn0 hst hrs hc hs hsp (fun v' h' tg' hp => by obtain ⟨rfl, rfl, rfl⟩ := hp; exact ⟨htg, hJ⟩) (fun nm h' hp => hp.elim)
theorem m_callSx (hEX : ∀ s U : State, s.WarmedH U.vm → EX s → EX U) (hM : m_okM M = true) (hf : (m_tb M).lookup pc = some (.invokestatic i, t)) {n0 : Nat} (hcw : m_cwS M.1.cls i M' n0 = true) (hn0 : as.length = n0) (hsp : m_Dx l EX E M' d mc' ms' as h tg nm h1) (hst : st = as.reverse ++ rest) (hrs : (rest.map fun v => v.category).sum ≤ 40) (hc : kc + mc' ≤ mc) (hs : ks + ms' ≤ ms) (hh : M.2.2.2.2.1 = []) (hp : PX nm h1) : m_J l EX E M (d + 1) mc ms PR PX tg kc ks (pc, L, st, h) :=
  m_J_callS hEX hM hf hcw hn0 hst hrs hc hs hsp (fun v' h' tg' hp => hp.elim) (fun nm' h' hq => by obtain ⟨rfl, rfl⟩ := hq; exact m_JX_out hh hc hs hp)
theorem m_callV (hEX : ∀ s U : State, s.WarmedH U.vm → EX s → EX U) (hM : m_okM M = true) (hf : (m_tb M).lookup pc = some (.invokevirtual i, t)) {n0 : Nat} (hcw : m_cwV M.1.cls i M' n0 = true) (hn0 : as.length = n0) (hh0 : M'.2.2.2.2.1 = []) {b ci : Nat} {fs : List Value} (hob : h[b]? = some (.inr (ci, fs))) (hci : ∃ r, m_cl[ci]? = some r ∧ r.1 = M'.1.cls) (hsp : m_Dt l EX E M' d mc' ms' (.ref b :: as) h tg v h1 tg1) (hst : st = as.reverse ++ .ref b :: rest) (hrs : (rest.map fun v => v.category).sum ≤ 40) (hc : kc + mc' ≤ mc) (hs : ks + ms' ≤ ms) (htg : tg1 = true → tg = true ∧ h.length + mc' ≤ h1.length)
    (hJ : m_J l EX E M (d + 1) mc ms PR PX tg1 (kc + mc') (ks + ms') (pc + 3, L, v.toList ++ rest, h1)) : m_J l EX E M (d + 1) mc ms PR PX tg kc ks (pc, L, st, h) :=
  m_J_callV hEX hM hf hcw hn0 hh0 hst hob hci hrs hc hs hsp (fun v' h' tg' hp => by obtain ⟨rfl, rfl, rfl⟩ := hp; exact ⟨htg, hJ⟩) (fun nm h' hp => hp.elim)
theorem m_callVx (hEX : ∀ s U : State, s.WarmedH U.vm → EX s → EX U) (hM : m_okM M = true) (hf : (m_tb M).lookup pc = some (.invokevirtual i, t)) {n0 : Nat} (hcw : m_cwV M.1.cls i M' n0 = true) (hn0 : as.length = n0) (hh0 : M'.2.2.2.2.1 = []) {b ci : Nat} {fs : List Value} (hob : h[b]? = some (.inr (ci, fs))) (hci : ∃ r, m_cl[ci]? = some r ∧ r.1 = M'.1.cls) (hsp : m_Dx l EX E M' d mc' ms' (.ref b :: as) h tg nm h1) (hst : st = as.reverse ++ .ref b :: rest) (hrs : (rest.map fun v => v.category).sum ≤ 40) (hc : kc + mc' ≤ mc) (hs : ks + ms' ≤ ms) (hh : M.2.2.2.2.1 = []) (hp : PX nm h1) : m_J l EX E M (d + 1) mc ms PR PX tg kc ks (pc, L, st, h) :=
  m_J_callV hEX hM hf hcw hn0 hh0 hst hob hci hrs hc hs hsp (fun v' h' tg' hp => hp.elim) (fun nm' h' hq => by obtain ⟨rfl, rfl⟩ := hq; exact m_JX_out hh hc hs hp)
theorem m_callI (nest : Bool) (hEX : ∀ s U : State, s.WarmedH U.vm → EX s → EX U) (hM : m_okM M = true) (hf : (m_tb M).lookup pc = some (.invokespecial i, t)) {n0 : Nat} (hcw : (bif nest then m_cwN M.1.cls i M' n0 else m_cwI M.1.cls i M' n0) = true) (hn0 : as.length = n0) (hh0 : M'.2.2.2.2.1 = []) {b : Nat} (hsp : m_Dt l EX E M' d mc' ms' (.ref b :: as) h tg v h1 tg1) (hst : st = as.reverse ++ .ref b :: rest) (hrs : (rest.map fun v => v.category).sum ≤ 40) (hc : kc + mc' ≤ mc) (hs : ks + ms' ≤ ms) (htg : tg1 = true → tg = true ∧ h.length + mc' ≤ h1.length)
    (hJ : m_J l EX E M (d + 1) mc ms PR PX tg1 (kc + mc') (ks + ms') (pc + 3, L, v.toList ++ rest, h1)) : m_J l EX E M (d + 1) mc ms PR PX tg kc ks (pc, L, st, h) :=
  m_J_callI nest hEX hM hf hcw hn0 hh0 hst hrs hc hs hsp (fun v' h' tg' hp => by obtain ⟨rfl, rfl, rfl⟩ := hp; exact ⟨htg, hJ⟩)
theorem m_iret (hM : m_okM M = true) (hf : (m_tb M).lookup pc = some (.ireturn, t)) {v : Int32} {ty : FieldType} (hr : M.2.2.2.1 = some ty) (hn : narrow ty (.int v) = .int v) (hc : kc ≤ mc) (hs : ks ≤ ms) {w : Int32} (e : v = w) (eh : h = h1) : m_J l EX E M d mc ms (m_K (some (.int w)) h1 tg) PX tg kc ks (pc, L, [.int v], h) := by
  subst e; subst eh
  exact m_J_iret hM hf hr hn hc hs ⟨rfl, rfl, rfl⟩
theorem m_lret (hM : m_okM M = true) (hf : (m_tb M).lookup pc = some (.lreturn, t)) {v : Int64} (hr : M.2.2.2.1 = some .long) (hc : kc ≤ mc) (hs : ks ≤ ms) {w : Int64} (e : v = w) (eh : h = h1) : m_J l EX E M d mc ms (m_K (some (.long w)) h1 tg) PX tg kc ks (pc, L, [.long v], h) := by
  subst e; subst eh
  exact m_J_lret hM hf hr hc hs ⟨rfl, rfl, rfl⟩
theorem m_vret (hM : m_okM M = true) (hf : (m_tb M).lookup pc = some (.return_, t)) (hr : M.2.2.2.1 = none) (hc : kc ≤ mc) (hs : ks ≤ ms) (eh : h = h1) : m_J l EX E M d mc ms (m_K none h1 tg) PX tg kc ks (pc, L, [], h) := by
  subst eh
  exact m_J_vret hM hf hr hc hs ⟨rfl, rfl, rfl⟩
end
section
variable {l : Launch} {E : mE} {N : Nat} {xs : Nat → Int32} {M M' : mM} {d mc ms : Nat} {PR : Option Value → mH → Bool → Prop} {PX : String → mH → Prop} {tg tg1 : Bool} {kc ks : Nat} {pc t : Nat} {L : List (Option Value)} {h h1 : mH} {i si : Nat} {as rest st : List Value} {v : Option Value}
set_option maxHeartbeats 1000000 in
/-- a text's method -/
theorem m_callT (hM : m_okM M = true) (hf : (m_tb M).lookup pc = some (.invokevirtual i, t)) {n0 : Nat} (hcw : m_cwV M.1.cls i M' n0 = true) (hn0 : as.length = n0) (hh0 : M'.2.2.2.2.1 = []) (hcl9 : M'.1.cls = "java/lang/String") (hi : si < 42) (hsp : m_Dt l (m_EX E N xs) E M' d 0 0 (.ref (1000001 + si) :: as) h tg v h tg) (hst : st = as.reverse ++ .ref (1000001 + si) :: rest) (hrs : (rest.map fun v => v.category).sum ≤ 40) (hc : kc ≤ mc) (hs : ks ≤ ms)
    (hJ : m_J l (m_EX E N xs) E M (d + 1) mc ms PR PX tg kc ks (pc + 3, L, v.toList ++ rest, h)) : m_J l (m_EX E N xs) E M (d + 1) mc ms PR PX tg kc ks (pc, L, st, h) := by
  subst hst
  subst hn0
  have hEX := m_EX_warm E N xs
  have hd := m_dec1 hM hf rfl
  simp only [m_cwV, Bool.and_eq_true] at hcw
  obtain ⟨⟨⟨hcw, hl1⟩, hl2⟩, hl3⟩ := hcw
  obtain ⟨w1, w2, w3, w4, w5⟩ := m_cw0_spec hcw
  intro p e s m args below meth c H locs ls hX hR hz1 hz2 hlo hL T hT X
  have hb : decode c.code (F0 m pc ls ((as.reverse ++ .ref (1000001 + si) :: rest).map (m_v E))).pc = .ok (.invokevirtual i, 3) := by rw [hX.2.1]; exact hd
  have hK := m_vback (p := p) (e := e) (below := below) (mc := mc) (ms := ms) hX hEX hsp w1 w2 w3
  have hstk : (F0 m pc ls ((as.reverse ++ .ref (1000001 + si) :: rest).map (m_v E))).stack = (as.map (m_v E)).reverse ++ .ref (m_ad E (1000001 + si)) :: rest.map (m_v E) := by simp [m_v]
  have hcat : 2 * (F0 m pc ls ((as.reverse ++ .ref (1000001 + si) :: rest).map (m_v E))).monitorRoom + ((rest.map (m_v E)).map fun v => v.category).sum ≤ 40 := by
    have e0 : (rest.map (m_v E)).map (fun v => v.category) = rest.map (fun v => v.category) := by rw [List.map_map]; exact List.map_congr_left (fun v _ => m_cat E v)
    rw [e0]; simpa [JFrame.monitorRoom] using hrs
  have hpre : ∀ vm₁, s.WarmedH vm₁ → PreOf (m_rm (d + 1) mc ms) 0 0 (va_Pc ((Value.ref (1000001 + si) :: as).map (m_v E)) (fun U => m_R E tg h U.heap ∧ va_K E.2.2.1 m_cl (m_tys E) U ∧ m_EX E N xs U)) ⟨T.setVm vm₁, locs, kc, ks⟩ (Value.ref (m_ad E (1000001 + si)) :: as.map (m_v E)).toArray :=
    fun vm₁ hW₁ => ⟨hc, hs, rfl, by show m_R E tg h T.heap; rw [hT]; exact hR, va_K.moved (u := s) (U := T.setVm vm₁) hW₁.alike hX.2.2.2.2.2.2.1, hEX s (T.setVm vm₁) hW₁ hX.2.2.2.2.2.2.2.2.2.2.1⟩
  have hcode := m_mem_tbl hX (m_in_mem w1) args s (State.WarmedH.refl s)
  have hO := m_va_O_kept (m_va_O_kept (hX.2.2.2.2.2.2.2.2.2.2.1.2.2.2.2.2.2.2.1 si hi).1 (m_keep hX)) (fun a h1 h2 => (m_S hX hR hz1 hlo).2.1 a h1 h2)
  obtain ⟨cellB, hcB, hoB, hclB, -⟩ := hO
  obtain ⟨y, bytes, maxL, ret, hh, o, tb⟩ := M'
  dsimp only at hh0 hcl9
  subst hh0
  refine m_after (l := l) (R := m_rm (d + 1) mc ms) (rest := rest) (c := c) (meth := meth) (args := args) (ks := ks) (mc' := 0) (ms' := 0) (PR' := m_K v h tg) (PX' := m_no) hz1 hz2 hlo hT (fun v' h' tg' hp => ?_) (fun nm h' hp => hp.elim) (aa := (Value.ref (m_ad E (1000001 + si)) :: as.map (m_v E)).toArray) ?_
  · obtain ⟨rfl, rfl, rfl⟩ := hp
    refine ⟨fun ht => ⟨ht, Nat.le_refl _⟩, fun H1 locs1 a1 a2 a3 a4 => ?_⟩
    exact hJ p e s m args below meth c H1 locs1 ls hX a1 a2 a3 a4 hL
  · exact vx_callV X hX.1 (C := y.cls) (bytes := bytes) (maxL := maxL) (ret := ret) hX.2.2.2.2.1 (hX.2.2.2.2.2.1 _ (m_in_mem hl1)) (hX.2.2.2.2.2.1 _ (m_in_mem hl2)) (hX.2.2.2.2.2.1 _ (m_in_mem hl3)) hcode w5 hK (by rw [hT, m_ext (by omega)]; exact hcB) hoB (by rw [hcl9]; exact hclB) rfl (hL.1.trans hX.2.2.2.1.symm) (argsL := as.map (m_v E)) (fun sig hs => by rw [List.length_map]; exact w4 sig hs) hstk hcat hb hpre
end
end
section
/-! Math.max, min, abs: rows of the kit -/
theorem m_wmax : m_w1 mM_J9_max_7cf53 = .code Lib.Math.max.name Lib.Math.max.code 2 (some .int) := by decide +kernel
theorem m_wmin : m_w1 mM_J9_min_7cf53 = .code Lib.Math.min.name Lib.Math.min.code 2 (some .int) := by decide +kernel
theorem m_wabs : m_w1 mM_J9_abs_0f7a4 = .code Lib.Math.abs.name Lib.Math.abs.code 1 (some .int) := by decide +kernel
theorem m_ymax : yJ9_max_7cf53 = Lib.Math.max.name := by decide +kernel
theorem m_ymin : yJ9_min_7cf53 = Lib.Math.min.name := by decide +kernel
theorem m_yabs : yJ9_abs_0f7a4 = Lib.Math.abs.name := by decide +kernel
section
variable {l : Launch} {EX : State → Prop} {E : mE} {M : mM} {d mc ms : Nat} {PR : Option Value → mH → Bool → Prop} {PX : String → mH → Prop} {tg : Bool} {kc ks : Nat} {pc t : Nat} {L : List (Option Value)} {h : mH} {i : Nat} {rest : List Value} {x y : Int32}
theorem m_rest_ok (hrs : (rest.map fun v => v.category).sum ≤ 40) : ((rest.map (m_v E)).map fun v => v.category).sum + 13 ≤ (m_rm d mc ms).locals := by
  have e0 : (rest.map (m_v E)).map (fun v => v.category) = rest.map (fun v => v.category) := by rw [List.map_map]; exact List.map_congr_left (fun v _ => m_cat E v)
  rw [e0]; simp [m_rm]; omega
theorem m_max (hM : m_okM M = true) (hf : (m_tb M).lookup pc = some (.invokestatic i, t)) (hcw : m_cwS M.1.cls i mM_J9_max_7cf53 2 = true) (hrs : (rest.map fun v => v.category).sum ≤ 40) (hc : kc ≤ mc) (hs : ks ≤ ms) (hJ : m_J l EX E M d mc ms PR PX tg kc ks (pc + 3, L, .int (if x < y then y else x) :: rest, h)) : m_J l EX E M d mc ms PR PX tg kc ks (pc, L, .int y :: .int x :: rest, h) := by
  simp only [m_cwS, Bool.and_eq_true] at hcw
  obtain ⟨⟨hcw, hl1⟩, hl2⟩ := hcw
  obtain ⟨w1, w2, -, -, -⟩ := m_cw0_spec hcw
  rw [m_wmax] at w1
  have hl1 : m_in (.methodLink M.1.cls i Lib.Math.max.name) = true := by rw [← m_ymax]; exact hl1
  have hl2 : m_in (.static Lib.Math.max.name) = true := by rw [← m_ymax]; exact hl2
  intro p e s m args below meth c H locs ls hX hR hz1 hz2 hlo hL
  exact va_mmax hX.1 hX.2.1 (hX.2.2.2.1.trans hL.1.symm) hX.2.2.2.2.1 (hX.2.2.2.2.2.1 _ (m_in_mem hl1)) (hX.2.2.2.2.2.1 _ (m_in_mem hl2)) (hX.2.2.2.2.2.1 _ (m_in_mem w2)) (hX.2.2.2.2.2.1 _ (m_in_mem w1)) (by simp [m_rm]; omega) (m_rest_ok hrs) hc hs (m_dec1 hM hf rfl) (hJ p e s m args below meth c H locs ls hX hR hz1 hz2 hlo hL)
theorem m_min (hM : m_okM M = true) (hf : (m_tb M).lookup pc = some (.invokestatic i, t)) (hcw : m_cwS M.1.cls i mM_J9_min_7cf53 2 = true) (hrs : (rest.map fun v => v.category).sum ≤ 40) (hc : kc ≤ mc) (hs : ks ≤ ms) (hJ : m_J l EX E M d mc ms PR PX tg kc ks (pc + 3, L, .int (if y < x then y else x) :: rest, h)) : m_J l EX E M d mc ms PR PX tg kc ks (pc, L, .int y :: .int x :: rest, h) := by
  simp only [m_cwS, Bool.and_eq_true] at hcw
  obtain ⟨⟨hcw, hl1⟩, hl2⟩ := hcw
  obtain ⟨w1, w2, -, -, -⟩ := m_cw0_spec hcw
  rw [m_wmin] at w1
  have hl1 : m_in (.methodLink M.1.cls i Lib.Math.min.name) = true := by rw [← m_ymin]; exact hl1
  have hl2 : m_in (.static Lib.Math.min.name) = true := by rw [← m_ymin]; exact hl2
  intro p e s m args below meth c H locs ls hX hR hz1 hz2 hlo hL
  exact va_mmin hX.1 hX.2.1 (hX.2.2.2.1.trans hL.1.symm) hX.2.2.2.2.1 (hX.2.2.2.2.2.1 _ (m_in_mem hl1)) (hX.2.2.2.2.2.1 _ (m_in_mem hl2)) (hX.2.2.2.2.2.1 _ (m_in_mem w2)) (hX.2.2.2.2.2.1 _ (m_in_mem w1)) (by simp [m_rm]; omega) (m_rest_ok hrs) hc hs (m_dec1 hM hf rfl) (hJ p e s m args below meth c H locs ls hX hR hz1 hz2 hlo hL)
theorem m_abs (hM : m_okM M = true) (hf : (m_tb M).lookup pc = some (.invokestatic i, t)) (hcw : m_cwS M.1.cls i mM_J9_abs_0f7a4 1 = true) (hrs : (rest.map fun v => v.category).sum ≤ 40) (hc : kc ≤ mc) (hs : ks ≤ ms) (hJ : m_J l EX E M d mc ms PR PX tg kc ks (pc + 3, L, .int (if 0 ≤ x then x else 0 - x) :: rest, h)) : m_J l EX E M d mc ms PR PX tg kc ks (pc, L, .int x :: rest, h) := by
  simp only [m_cwS, Bool.and_eq_true] at hcw
  obtain ⟨⟨hcw, hl1⟩, hl2⟩ := hcw
  obtain ⟨w1, w2, -, -, -⟩ := m_cw0_spec hcw
  rw [m_wabs] at w1
  have hl1 : m_in (.methodLink M.1.cls i Lib.Math.abs.name) = true := by rw [← m_yabs]; exact hl1
  have hl2 : m_in (.static Lib.Math.abs.name) = true := by rw [← m_yabs]; exact hl2
  intro p e s m args below meth c H locs ls hX hR hz1 hz2 hlo hL
  exact va_mabs hX.1 hX.2.1 (hX.2.2.2.1.trans hL.1.symm) hX.2.2.2.2.1 (hX.2.2.2.2.2.1 _ (m_in_mem hl1)) (hX.2.2.2.2.2.1 _ (m_in_mem hl2)) (hX.2.2.2.2.2.1 _ (m_in_mem w2)) (hX.2.2.2.2.2.1 _ (m_in_mem w1)) (by simp [m_rm]; omega) (m_rest_ok hrs) hc hs (m_dec1 hM hf rfl) (hJ p e s m args below meth c H locs ls hX hR hz1 hz2 hlo hL)
end
end
section
/-! TEXTS: length and charAt of the constants -/
theorem k_chr : ∀ c, c < 256 → ((nI c &&& nI 255).toUInt32 % 65536).toInt32 = nI c ∧ narrow .char (.int (nI c)) = .int (nI c) := by decide +kernel
theorem k_tx : ∀ i, i < 42 → (m_tx i).length < 100 ∧ ∀ c ∈ m_tx i, c < 256 := by decide +kernel
section
variable {l : Launch} {E : mE} {N : Nat} {xs : Nat → Int32} {d : Nat} {tg : Bool} {h : mH} {si : Nat}
theorem s_coder (hi : si < 42) : m_Dt l (m_EX E N xs) E mM_J0_coder_7d493 d 0 0 [.ref (1000001 + si)] h tg (some (.int 0)) h tg := by
  have hM := mM_J0_coder_7d493_ok
  refine m_Sp_of (by decide) (Nat.le_of_ble_eq_true rfl) ?_
  refine m_J_gcomp hM rfl (by decide +kernel) ?_
  refine m_J_run hM 1 rfl ⟨trivial, trivial⟩ ?_
  refine m_J_if (fun hc => absurd hc (by decide)) (fun _ => ?_)
  refine m_J_run hM 1 rfl ⟨trivial, trivial⟩ ?_
  refine m_J_scod hM rfl (by decide +kernel) hi ?_
  refine m_J_run hM 1 rfl ⟨trivial, trivial⟩ ?_
  exact m_iret hM rfl rfl (by decide) (Nat.le_refl _) (Nat.le_refl _) rfl rfl
theorem s_latin (hi : si < 42) : m_Dt l (m_EX E N xs) E mM_J0_isLatin1_aae02 d 0 0 [.ref (1000001 + si)] h tg (some (.int (nI 1))) h tg := by
  have hM := mM_J0_isLatin1_aae02_ok
  refine m_Sp_of (by decide) (Nat.le_of_ble_eq_true rfl) ?_
  refine m_J_gcomp hM rfl (by decide +kernel) ?_
  refine m_J_run hM 1 rfl ⟨trivial, trivial⟩ ?_
  refine m_J_if (fun hc => absurd hc (by decide)) (fun _ => ?_)
  refine m_J_run hM 1 rfl ⟨trivial, trivial⟩ ?_
  refine m_J_scod hM rfl (by decide +kernel) hi ?_
  refine m_J_run hM 1 rfl ⟨trivial, trivial⟩ ?_
  refine m_J_if (fun hc => absurd rfl hc) (fun _ => ?_)
  refine m_J_run hM 2 rfl ⟨trivial, trivial, trivial⟩ ?_
  exact m_iret hM rfl rfl (by decide) (Nat.le_refl _) (Nat.le_refl _) rfl rfl
theorem s_length (hi : si < 42) : m_Dt l (m_EX E N xs) E mM_J0_length_8abf5 (d + 1) 0 0 [.ref (1000001 + si)] h tg (some (.int (nI (m_tx si).length))) h tg := by
  have hM := mM_J0_length_8abf5_ok
  refine m_Sp_of (by decide) (Nat.le_of_ble_eq_true rfl) ?_
  refine m_J_run hM 1 rfl ⟨trivial, trivial⟩ ?_
  refine m_J_sval hM rfl (by decide +kernel) hi ?_
  refine m_J_slen hM rfl hi ?_
  refine m_J_run hM 1 rfl ⟨trivial, trivial⟩ ?_
  refine m_callT (as := []) hM rfl kw_J0_335 rfl rfl rfl hi (s_coder hi) rfl (Nat.le_of_ble_eq_true rfl) (Nat.le_refl _) (Nat.le_refl _) ?_
  refine m_J_run hM 1 rfl ⟨trivial, trivial⟩ ?_
  exact m_iret hM rfl rfl rfl (Nat.le_refl _) (Nat.le_refl _) (sb_shr0 _) rfl
theorem s_check {k n : Nat} {v : Value} (hv : v = .null ∨ v = .ref 3000000) (hk : k < n) (hn : n < 2 ^ 31) : m_Dt l (m_EX E N xs) E mM_J3_checkIndex_8e157 d 0 0 [.int (nI k), .int (nI n), v] h tg (some (.int (nI k))) h tg := by
  have hM := mM_J3_checkIndex_8e157_ok
  have key : ∀ L : List (Option Value), L.length = 3 → L[0]? = some (some (.int (nI k))) → L[1]? = some (some (.int (nI n))) → m_J l (m_EX E N xs) E mM_J3_checkIndex_8e157 d 0 0 (m_K (some (.int (nI k))) h tg) m_no tg 0 0 (0, L, [], h) := by
    intro L hl h0 h1
    obtain ⟨a, b, c, rfl⟩ : ∃ a b c, L = [a, b, c] := by
      match L, hl with
      | [a, b, c], _ => exact ⟨a, b, c, rfl⟩
    simp at h0 h1
    subst h0; subst h1
    refine m_J_run hM 2 rfl ⟨trivial, trivial, trivial⟩ ?_
    refine m_J_if (fun hc => absurd hc (nI_pos (by omega))) (fun _ => ?_)
    refine m_J_run hM 3 rfl ⟨trivial, trivial, trivial, trivial⟩ ?_
    refine m_J_if (fun _ => ?_) (fun hc => absurd (nI_lt hk hn) hc)
    refine m_J_run hM 1 rfl ⟨trivial, trivial⟩ ?_
    exact m_iret hM rfl rfl rfl (Nat.le_refl _) (Nat.le_refl _) rfl rfl
  rcases hv with rfl | rfl
  · exact m_Sp_of (by decide) (Nat.le_of_ble_eq_true rfl) (key _ rfl rfl rfl)
  · exact m_Sp_of (by decide) (Nat.le_of_ble_eq_true rfl) (key _ rfl rfl rfl)
theorem s_check2 {k n : Nat} (hk : k < n) (hn : n < 2 ^ 31) : m_Dt l (m_EX E N xs) E mM_J0_checkIndex_df160 (d + 1) 0 0 [.int (nI k), .int (nI n)] h tg none h tg := by
  have hM := mM_J0_checkIndex_df160_ok
  refine m_Sp_of (by decide) (Nat.le_of_ble_eq_true rfl) ?_
  refine m_J_run hM 2 rfl ⟨trivial, trivial, trivial⟩ ?_
  refine m_J_gform hM rfl (by decide +kernel) (fun v hv => ?_)
  refine m_callS (as := [.int (nI k), .int (nI n), v]) (rest := []) (m_EX_warm E N xs) hM rfl kw_J0_1059 rfl (s_check hv hk hn) rfl (Nat.le_of_ble_eq_true rfl) (Nat.le_refl _) (Nat.le_refl _) (fun ht => ⟨ht, Nat.le_refl _⟩) ?_
  refine m_J_run hM 1 rfl ⟨trivial, trivial⟩ ?_
  exact m_vret hM rfl rfl (Nat.le_refl _) (Nat.le_refl _) rfl
theorem s_lat {k : Nat} (hi : si < 42) (hk : k < (m_tx si).length) : m_Dt l (m_EX E N xs) E mM_J1_charAt_3b067 (d + 2) 0 0 [.ref (2000001 + si), .int (nI k)] h tg (some (.int (nI ((m_tx si).getD k 0)))) h tg := by
  have hM := mM_J1_charAt_3b067_ok
  have hl := (k_tx si hi).1
  have hc : (m_tx si).getD k 0 < 256 := (k_tx si hi).2 _ (by rw [List.getD_eq_getElem?_getD, List.getElem?_eq_getElem hk]; exact List.getElem_mem hk)
  refine m_Sp_of (by decide) (Nat.le_of_ble_eq_true rfl) ?_
  refine m_J_run hM 2 rfl ⟨trivial, trivial, trivial⟩ ?_
  refine m_J_slen hM rfl hi ?_
  refine m_callS (as := [.int (nI k), .int (nI (m_tx si).length)]) (rest := []) (m_EX_warm E N xs) hM rfl kw_J1_9 rfl (s_check2 hk (by omega)) rfl (Nat.le_of_ble_eq_true rfl) (Nat.le_refl _) (Nat.le_refl _) (fun ht => ⟨ht, Nat.le_refl _⟩) ?_
  refine m_J_run hM 2 rfl ⟨trivial, trivial, trivial⟩ ?_
  refine m_J_sbyt hM rfl hi hk (by omega) ?_
  refine m_J_run hM 2 rfl ⟨trivial, trivial, trivial⟩ ?_
  refine m_J_i2c hM rfl ?_
  rw [(k_chr _ hc).1]
  exact m_iret hM rfl rfl (k_chr _ hc).2 (Nat.le_refl _) (Nat.le_refl _) rfl rfl
theorem s_char {k : Nat} (hi : si < 42) (hk : k < (m_tx si).length) : m_Dt l (m_EX E N xs) E mM_J0_charAt_5068e (d + 3) 0 0 [.ref (1000001 + si), .int (nI k)] h tg (some (.int (nI ((m_tx si).getD k 0)))) h tg := by
  have hM := mM_J0_charAt_5068e_ok
  have hc : (m_tx si).getD k 0 < 256 := (k_tx si hi).2 _ (by rw [List.getD_eq_getElem?_getD, List.getElem?_eq_getElem hk]; exact List.getElem_mem hk)
  refine m_Sp_of (by decide) (Nat.le_of_ble_eq_true rfl) ?_
  refine m_J_run hM 1 rfl ⟨trivial, trivial⟩ ?_
  refine m_callT (as := []) hM rfl kw_J0_492 rfl rfl rfl hi (s_latin hi) rfl (Nat.le_of_ble_eq_true rfl) (Nat.le_refl _) (Nat.le_refl _) ?_
  refine m_J_run hM 1 rfl ⟨trivial, trivial⟩ ?_
  refine m_J_if (fun hc => absurd hc (by decide)) (fun _ => ?_)
  refine m_J_run hM 1 rfl ⟨trivial, trivial⟩ ?_
  refine m_J_sval hM rfl (by decide +kernel) hi ?_
  refine m_J_run hM 1 rfl ⟨trivial, trivial⟩ ?_
  refine m_callS (as := [.ref (2000001 + si), .int (nI k)]) (rest := []) (m_EX_warm E N xs) hM rfl kw_J0_495 rfl (s_lat hi hk) rfl (Nat.le_of_ble_eq_true rfl) (Nat.le_refl _) (Nat.le_refl _) (fun ht => ⟨ht, Nat.le_refl _⟩) ?_
  exact m_iret hM rfl rfl (k_chr _ hc).2 (Nat.le_refl _) (Nat.le_refl _) rfl rfl
end
end
section
/-! NUMBERS AND SETS OF SQUARES: Math, bitCount, Squares -/
/-- shift right, as the machine does it -/
def k_shr (x : Int64) (n : Nat) : Int64 := (x.toUInt64 >>> ((nI n).toInt64.toUInt64 &&& Int64.toUInt64 63)).toInt64
def k_shl (x : Int64) (n : Nat) : Int64 := x <<< ((nI n).toInt64 &&& 63)
def k_pc1 (x : Int64) : Int64 := x - (k_shr x 1 &&& 6148914691236517205)
def k_pc2 (x : Int64) : Int64 := (x &&& 3689348814741910323) + (k_shr x 2 &&& 3689348814741910323)
def k_pc3 (x : Int64) : Int64 := (x + k_shr x 4) &&& 1085102592571150095
def k_pcs (n : Nat) (x : Int64) : Int64 := x + k_shr x n
def k_pc (x : Int64) : Int32 := (k_pcs 32 (k_pcs 16 (k_pcs 8 (k_pc3 (k_pc2 (k_pc1 x)))))).toInt32 &&& nI 127
def k_only (i : Nat) : Int64 := k_shl (Int64.ofNat 1) i
def k_has (x : Int64) (i : Nat) : Bool := decide (¬ (x &&& k_only i) = 0)
def k_z (b : Bool) : Int32 := if b then nI 1 else nI 0
theorem k_z_nar (b : Bool) : narrow .boolean (.int (k_z b)) = .int (k_z b) := by cases b <;> decide
def k_bes (x : Int64) : Int64 := ((k_shl x 10 ||| k_shr x 10) ||| (k_shl (x &&& (-577024252550054401)) 1 ||| k_shr (x &&& (-1127000493261826)) 1)) &&& 1152921504606846975
theorem k_lcmp0 (x y : Int64) : lg_cmp x y = 0 ↔ x = y := by
  unfold lg_cmp
  by_cases h1 : x = y
  · subst h1; simp [Int64.lt_irrefl]
  · rcases Int64.lt_or_lt_of_ne h1 with h2 | h2
    · have h3 : ¬ y < x := fun q => Int64.lt_irrefl (Int64.lt_trans h2 q)
      simp [h1, h3]
    · simp [h1, h2]
section
variable {l : Launch} {E : mE} {N : Nat} {xs : Nat → Int32} {d : Nat} {tg : Bool} {h : mH}
theorem s_pc (x : Int64) : m_Dt l (m_EX E N xs) E mM_J13_bitCount_95d88 d 0 0 [.long x] h tg (some (.int (k_pc x))) h tg := by
  have hM := mM_J13_bitCount_95d88_ok
  refine m_Sp_of (by decide) (Nat.le_of_ble_eq_true rfl) ?_
  refine m_J_run hM 8 rfl ⟨trivial, trivial, trivial, trivial, trivial, trivial, trivial, trivial, trivial⟩ ?_
  refine m_J_run hM 10 rfl ⟨trivial, trivial, trivial, trivial, trivial, trivial, trivial, trivial, trivial, trivial, trivial⟩ ?_
  refine m_J_run hM 8 rfl ⟨trivial, trivial, trivial, trivial, trivial, trivial, trivial, trivial, trivial⟩ ?_
  refine m_J_run hM 12 rfl ⟨trivial, trivial, trivial, trivial, trivial, trivial, trivial, trivial, trivial, trivial, trivial, trivial, trivial⟩ ?_
  refine m_J_run hM 10 rfl ⟨trivial, trivial, trivial, trivial, trivial, trivial, trivial, trivial, trivial, trivial, trivial⟩ ?_
  exact m_iret hM rfl rfl rfl (Nat.le_of_ble_eq_true rfl) (Nat.le_of_ble_eq_true rfl) (rfl) (rfl)
theorem s_only (i : Nat) : m_Dt l (m_EX E N xs) E mM_X5_only d 0 0 [.int (nI i)] h tg (some (.long (k_only i))) h tg := by
  have hM := mM_X5_only_ok
  refine m_Sp_of (by decide) (Nat.le_of_ble_eq_true rfl) ?_
  refine m_J_run hM 3 rfl ⟨trivial, trivial, trivial, trivial⟩ ?_
  exact m_lret hM rfl rfl (Nat.le_of_ble_eq_true rfl) (Nat.le_of_ble_eq_true rfl) (rfl) (rfl)
theorem s_has (x : Int64) (i : Nat) : m_Dt l (m_EX E N xs) E mM_X5_has (d + 1) 0 0 [.long x, .int (nI i)] h tg (some (.int (k_z (k_has x i)))) h tg := by
  have hM := mM_X5_has_ok
  refine m_Sp_of (by decide) (Nat.le_of_ble_eq_true rfl) ?_
  refine m_J_run hM 2 rfl ⟨trivial, trivial, trivial⟩ ?_
  refine m_callS (as := [.int (nI i)]) (rest := [.long x]) (m_EX_warm E N xs) hM rfl kw_X5_11 rfl (s_only i) rfl (Nat.le_of_ble_eq_true rfl) (Nat.le_of_ble_eq_true rfl) (Nat.le_of_ble_eq_true rfl) (fun ht => ⟨ht, Nat.le_refl _⟩) ?_
  refine m_J_run hM 4 rfl ⟨trivial, trivial, trivial, trivial, trivial⟩ ?_
  refine m_J_if (fun hc => ?_) (fun hc => ?_)
  · refine m_J_run hM 1 rfl ⟨trivial, trivial⟩ ?_
    exact m_iret hM rfl rfl (by decide) (Nat.le_of_ble_eq_true rfl) (Nat.le_of_ble_eq_true rfl) (by rw [k_lcmp0] at hc; have hc2 : (x &&& k_only i) = 0 := hc; simp [k_z, k_has, hc2]) (rfl)
  · refine m_J_run hM 2 rfl ⟨trivial, trivial, trivial⟩ ?_
    exact m_iret hM rfl rfl (by decide) (Nat.le_of_ble_eq_true rfl) (Nat.le_of_ble_eq_true rfl) (by rw [k_lcmp0] at hc; have hc2 : ¬ (x &&& k_only i) = 0 := hc; simp [k_z, k_has, hc2]) (rfl)
theorem s_bes (x : Int64) : m_Dt l (m_EX E N xs) E mM_X5_beside d 0 0 [.long x] h tg (some (.long (k_bes x))) h tg := by
  have hM := mM_X5_beside_ok
  refine m_Sp_of (by decide) (Nat.le_of_ble_eq_true rfl) ?_
  refine m_J_run hM 8 rfl ⟨trivial, trivial, trivial, trivial, trivial, trivial, trivial, trivial, trivial⟩ ?_
  refine m_J_run hM 12 rfl ⟨trivial, trivial, trivial, trivial, trivial, trivial, trivial, trivial, trivial, trivial, trivial, trivial, trivial⟩ ?_
  refine m_J_run hM 5 rfl ⟨trivial, trivial, trivial, trivial, trivial, trivial⟩ ?_
  exact m_lret hM rfl rfl (Nat.le_of_ble_eq_true rfl) (Nat.le_of_ble_eq_true rfl) (rfl) (rfl)
end
end
section
/-! BITS of longs, and how many there are (the first rows: kit/laws/BITS.to-paste, COUNTS.to-paste) -/
/-! ===== Int64 as an unsigned number: uN x ===== -/
def uN (x : Int64) : Nat := x.toUInt64.toNat
theorem uN_lt (x : Int64) : uN x < 18446744073709551616 := x.toUInt64.toNat_lt
theorem uN_inj {x y : Int64} (h : uN x = uN y) : x = y := congrArg UInt64.toInt64 (UInt64.toNat_inj.mp h)
theorem uN_add (x y : Int64) : uN (x + y) = (uN x + uN y) % 18446744073709551616 := by
  show (x.toUInt64 + y.toUInt64).toNat = _
  exact UInt64.toNat_add _ _
theorem uN_mul (x y : Int64) : uN (x * y) = (uN x * uN y) % 18446744073709551616 := by
  show (x.toUInt64 * y.toUInt64).toNat = _
  exact UInt64.toNat_mul _ _
theorem uN_shl (x : Int64) : uN (x <<< ((1 : Int32).toInt64 &&& 63)) = (2 * uN x) % 18446744073709551616 := by
  have h : (((1 : Int32).toInt64 &&& 63).toBitVec.smod 64).toNat = 1 := by decide
  show (x.toBitVec <<< (((1 : Int32).toInt64 &&& 63).toBitVec.smod 64).toNat).toNat = _
  rw [h, BitVec.toNat_shiftLeft, Nat.shiftLeft_eq, Nat.mul_comm]
  rfl
theorem uN_shr (x : Int64) (s : UInt64) : uN (x.toUInt64 >>> s).toInt64 = uN x / 2 ^ (s.toNat % 64) := by
  show (x.toUInt64 >>> s).toNat = _
  rw [UInt64.toNat_shiftRight, Nat.shiftRight_eq_div_pow]
  rfl
theorem uN_s32 (x : Int64) : uN (x.toUInt64 >>> ((32 : Int32).toInt64.toUInt64 &&& Int64.toUInt64 63)).toInt64 = uN x / 4294967296 := by
  have h : ((32 : Int32).toInt64.toUInt64 &&& Int64.toUInt64 63).toNat % 64 = 32 := by decide
  rw [uN_shr, h]
theorem uN_s63 (x : Int64) : uN (x.toUInt64 >>> ((63 : Int32).toInt64.toUInt64 &&& Int64.toUInt64 63)).toInt64 = uN x / 9223372036854775808 := by
  have h : ((63 : Int32).toInt64.toUInt64 &&& Int64.toUInt64 63).toNat % 64 = 63 := by decide
  rw [uN_shr, h]
theorem uN_lo (x : Int64) : uN (x &&& 4294967295) = uN x % 4294967296 := by
  show (x.toUInt64 &&& Int64.toUInt64 4294967295).toNat = _
  rw [UInt64.toNat_and]
  exact Nat.and_two_pow_sub_one_eq_mod _ 32
theorem uN_bit (x : Int64) : (x &&& 1) = 0 ↔ uN x % 2 = 0 := by
  have h : uN (x &&& 1) = uN x % 2 := by
    show (x.toUInt64 &&& Int64.toUInt64 1).toNat = _
    rw [UInt64.toNat_and]
    exact Nat.and_two_pow_sub_one_eq_mod _ 1
  rw [← h]
  exact ⟨fun z => by rw [z]; rfl, fun z => uN_inj (z.trans rfl)⟩
theorem uN_or {x y : Int64} (hy : uN y < 2) : uN ((x <<< ((1 : Int32).toInt64 &&& 63)) ||| y) = (2 * uN x) % 18446744073709551616 + uN y := by
  have h1 : uN ((x <<< ((1 : Int32).toInt64 &&& 63)) ||| y) = uN (x <<< ((1 : Int32).toInt64 &&& 63)) ||| uN y := UInt64.toNat_or _ _
  have h2 : (2 * uN x) % 18446744073709551616 = 2 ^ 1 * (uN x % 9223372036854775808) := by omega
  rw [h1, uN_shl, h2]
  exact (Nat.two_pow_add_eq_or_of_lt (i := 1) hy _).symm
theorem nat_xor {a : Nat} (h : a < 18446744073709551616) : a ^^^ 2 ^ 63 = (a + 9223372036854775808) % 18446744073709551616 := by
  have h1 : (a ^^^ 2 ^ 63) % 2 ^ 63 = a % 2 ^ 63 := by rw [Nat.xor_mod_two_pow, Nat.mod_self, Nat.xor_zero]
  have h2 : (a ^^^ 2 ^ 63) / 2 ^ 63 = (a / 2 ^ 63) ^^^ 1 := by rw [Nat.xor_div_two_pow, Nat.div_self (Nat.two_pow_pos 63)]
  have h3 : a / 2 ^ 63 = 0 ∨ a / 2 ^ 63 = 1 := by omega
  generalize a ^^^ 2 ^ 63 = t at h1 h2
  rcases h3 with h3 | h3
  · rw [h3] at h2
    have h2 : t / 2 ^ 63 = 1 := h2
    omega
  · rw [h3] at h2
    have h2 : t / 2 ^ 63 = 0 := h2
    omega
theorem uN_xor (x : Int64) : uN (x ^^^ (-9223372036854775808)) = (uN x + 9223372036854775808) % 18446744073709551616 := by
  rw [← nat_xor (uN_lt x)]
  exact UInt64.toNat_xor _ _
theorem uN_int (x : Int64) : x.toInt = if 2 * uN x < 18446744073709551616 then (uN x : Int) else (uN x : Int) - 18446744073709551616 := BitVec.toInt_eq_toNat_cond _
theorem uN_le (x y : Int64) : (x ^^^ (-9223372036854775808)) ≤ (y ^^^ (-9223372036854775808)) ↔ uN x ≤ uN y := by
  have hx := uN_lt x
  have hy := uN_lt y
  rw [Int64.le_iff_toInt_le, uN_int, uN_int, uN_xor, uN_xor]
  omega
theorem uN_sk (x : Int64) {k : Nat} (hk : k < 64) : uN (x.toUInt64 >>> ((nI k).toInt64.toUInt64 &&& Int64.toUInt64 63)).toInt64 = uN x / 2 ^ k := by
  have h : ((nI k).toInt64.toUInt64 &&& Int64.toUInt64 63).toNat % 64 = k := by
    rw [nI_l (by omega), UInt64.toNat_and]
    have e : (lN k).toUInt64.toNat = k % 2 ^ 64 := rfl
    have e2 : (Int64.toUInt64 63).toNat = 2 ^ 6 - 1 := by decide
    rw [e, e2, Nat.and_two_pow_sub_one_eq_mod]
    omega
  rw [uN_shr, h]
def fb_ct (p : Nat → Bool) : Nat → Nat
  | 0 => 0
  | n + 1 => fb_ct p n + (if p n then 1 else 0)
theorem fb_ct_succ (p : Nat → Bool) (n : Nat) : fb_ct p (n + 1) = fb_ct p n + (if p n then 1 else 0) := rfl
theorem fb_ct_le (p : Nat → Bool) : ∀ n, fb_ct p n ≤ n
  | 0 => Nat.le_refl _
  | n + 1 => by
    have h := fb_ct_le p n
    rw [fb_ct_succ]
    split <;> omega
theorem fb_ct_step (p : Nat → Bool) (m : Nat) : ∀ n, fb_ct p m ≤ fb_ct p (m + n)
  | 0 => Nat.le_refl _
  | n + 1 => by
    have h := fb_ct_step p m n
    show fb_ct p m ≤ fb_ct p (m + n + 1)
    rw [fb_ct_succ]
    omega
theorem fb_ct_mono (p : Nat → Bool) {m n : Nat} (h : m ≤ n) : fb_ct p m ≤ fb_ct p n := by
  have := fb_ct_step p m (n - m)
  rwa [Nat.add_sub_cancel' h] at this
theorem fb_ct_cong {p q : Nat → Bool} : ∀ {n : Nat}, (∀ k, k < n → p k = q k) → fb_ct p n = fb_ct q n
  | 0, _ => rfl
  | n + 1, h => by
    rw [fb_ct_succ, fb_ct_succ, fb_ct_cong (fun k hk => h k (by omega)), h n (by omega)]
/-- one place changed -/
theorem fb_ct_out (p : Nat → Bool) (b : Bool) {i n : Nat} (h : n ≤ i) : fb_ct (fun k => if k = i then b else p k) n = fb_ct p n :=
  fb_ct_cong fun k hk => if_neg (by omega)
theorem fb_ct_upd (p : Nat → Bool) (b : Bool) {i : Nat} : ∀ {n : Nat}, i < n → fb_ct (fun k => if k = i then b else p k) n + (if p i then 1 else 0) = fb_ct p n + (if b then 1 else 0)
  | 0, h => absurd h (Nat.not_lt_zero i)
  | n + 1, h => by
    rw [fb_ct_succ, fb_ct_succ]
    rcases Nat.lt_or_ge i n with q | q
    · have := fb_ct_upd p b q
      have e : (if n = i then b else p n) = p n := if_neg (by omega)
      rw [e]
      omega
    · have e : i = n := by omega
      subst e
      rw [fb_ct_out p b (Nat.le_refl _)]
      simp only [if_true]
      omega
theorem fb_ct_sub {p q : Nat → Bool} : ∀ {n : Nat}, (∀ k, k < n → p k = true → q k = true) → fb_ct p n ≤ fb_ct q n
  | 0, _ => Nat.le_refl _
  | n + 1, h => by
    have h1 := fb_ct_sub (n := n) (p := p) (q := q) (fun k hk => h k (by omega))
    have h2 := h n (by omega)
    rw [fb_ct_succ, fb_ct_succ]
    cases hp : p n <;> cases hq : q n <;> simp_all <;> omega
theorem fb_ct_or {p q : Nat → Bool} : ∀ {n : Nat}, (∀ k, k < n → ¬ (p k = true ∧ q k = true)) → fb_ct (fun k => p k || q k) n = fb_ct p n + fb_ct q n
  | 0, _ => rfl
  | n + 1, h => by
    have h1 := fb_ct_or (n := n) (p := p) (q := q) (fun k hk => h k (by omega))
    have h2 := h n (by omega)
    rw [fb_ct_succ, fb_ct_succ, fb_ct_succ, h1]
    cases hp : p n <;> cases hq : q n <;> simp_all <;> omega
theorem fb_ct_not (p : Nat → Bool) : ∀ n, fb_ct p n + fb_ct (fun k => !p k) n = n
  | 0 => rfl
  | n + 1 => by
    have h := fb_ct_not p n
    rw [fb_ct_succ, fb_ct_succ]
    cases p n <;> simp <;> omega
theorem fb_ct_split (p : Nat → Bool) (m : Nat) : ∀ n, fb_ct p (m + n) = fb_ct p m + fb_ct (fun k => p (m + k)) n
  | 0 => rfl
  | n + 1 => by
    have h := fb_ct_split p m n
    show fb_ct p (m + n + 1) = _
    rw [fb_ct_succ, fb_ct_succ, h, Nat.add_assoc]
theorem fb_ct_zero {p : Nat → Bool} : ∀ {n : Nat}, fb_ct p n = 0 ↔ ∀ k, k < n → p k = false
  | 0 => ⟨fun _ k hk => absurd hk (Nat.not_lt_zero k), fun _ => rfl⟩
  | n + 1 => by
    have h := fb_ct_zero (p := p) (n := n)
    rw [fb_ct_succ]
    constructor
    · intro e k hk
      have e1 : fb_ct p n = 0 := by omega
      rcases Nat.lt_or_ge k n with q | q
      · exact h.mp e1 k q
      · have ek : k = n := by omega
        subst ek
        cases hp : p k
        · rfl
        · simp [hp] at e
    · intro a
      rw [h.mpr (fun k hk => a k (by omega)), a n (by omega)]
      rfl
theorem fb_ct_pos {p : Nat → Bool} {n : Nat} : 0 < fb_ct p n ↔ ∃ k, k < n ∧ p k = true := by
  constructor
  · intro h
    refine Classical.byContradiction fun hx => ?_
    have := fb_ct_zero.mpr (fun k hk => by
      cases hp : p k
      · rfl
      · exact absurd ⟨k, hk, hp⟩ hx : ∀ k, k < n → p k = false)
    omega
  · rintro ⟨k, hk, hp⟩
    rcases Nat.eq_zero_or_pos (fb_ct p n) with e | e
    · have := fb_ct_zero.mp e k hk
      rw [this] at hp
      cases hp
    · exact e
theorem fb_ct_all {p : Nat → Bool} {n : Nat} : fb_ct p n = n ↔ ∀ k, k < n → p k = true := by
  have h := fb_ct_not p n
  constructor
  · intro e k hk
    have z : fb_ct (fun k => !p k) n = 0 := by omega
    have := fb_ct_zero.mp z k hk
    cases hp : p k
    · simp [hp] at this
    · rfl
  · intro a
    have z : fb_ct (fun k => !p k) n = 0 := fb_ct_zero.mpr (fun k hk => by simp [a k hk])
    omega
/-- the k-th place with the property -/
theorem fb_ct_kth {p : Nat → Bool} {k : Nat} : ∀ {n : Nat}, k < fb_ct p n → ∃ i, i < n ∧ p i = true ∧ fb_ct p i = k
  | 0, h => absurd h (Nat.not_lt_zero k)
  | n + 1, h => by
    rcases Nat.lt_or_ge k (fb_ct p n) with q | q
    · obtain ⟨i, h1, h2⟩ := fb_ct_kth q
      exact ⟨i, by omega, h2⟩
    · rw [fb_ct_succ] at h
      cases hp : p n
      · simp [hp] at h; omega
      · simp [hp] at h
        exact ⟨n, by omega, hp, by omega⟩
theorem fb_ct_kth_one {p : Nat → Bool} {i j : Nat} (hi : p i = true) (hj : p j = true) (e : fb_ct p i = fb_ct p j) : i = j := by
  have key : ∀ a b : Nat, a < b → p a = true → fb_ct p a < fb_ct p b := by
    intro a b hab ha
    have h := fb_ct_mono p (show a + 1 ≤ b from hab)
    rw [fb_ct_succ, ha] at h
    simp at h
    omega
  rcases Nat.lt_trichotomy i j with q | q | q
  · have := key i j q hi; omega
  · exact q
  · have := key j i q hj; omega
theorem uN_and (x y : Int64) : uN (x &&& y) = uN x &&& uN y := UInt64.toNat_and _ _
theorem uN_orr (x y : Int64) : uN (x ||| y) = uN x ||| uN y := UInt64.toNat_or _ _
theorem uN_xorr (x y : Int64) : uN (x ^^^ y) = uN x ^^^ uN y := UInt64.toNat_xor _ _
theorem uN_sub {x y : Int64} (h : uN y ≤ uN x) : uN (x - y) = uN x - uN y := by
  have e : x = (x - y) + y := by
    have := Int64.sub_add_cancel x y
    exact this.symm
  have h1 := uN_add (x - y) y
  rw [← e] at h1
  have := uN_lt (x - y)
  have := uN_lt x
  have := uN_lt y
  omega
theorem k_shr_n (x : Int64) {n : Nat} (hn : n < 64) : uN (k_shr x n) = uN x / 2 ^ n := uN_sk x hn
/-- bytes side by side -/
def k_LN (f : Nat → Nat) : Nat → Nat → Nat
  | 0, _ => 0
  | k + 1, X => 256 * k_LN f k (X / 256) + f (X % 256)
def k_mk (c : Nat) : Nat → Nat
  | 0 => 0
  | k + 1 => 256 * k_mk c k + c
theorem k_tb {a b : Nat} (hb : b < 256) (i : Nat) : (256 * a + b).testBit i = if i < 8 then b.testBit i else a.testBit (i - 8) := Nat.testBit_two_pow_mul_add a (i := 8) hb i
theorem k_lane {a b m c s : Nat} (hb : b < 256) (hs : s ≤ 8) (hc : c < 2 ^ (8 - s)) : ((256 * a + b) / 2 ^ s) &&& (256 * m + c) = 256 * ((a / 2 ^ s) &&& m) + ((b / 2 ^ s) &&& c) := by
  have hc2 : c < 256 := Nat.lt_of_lt_of_le hc (Nat.pow_le_pow_right (by omega) (by omega) : 2 ^ (8 - s) ≤ 2 ^ 8)
  have hl : (b / 2 ^ s) &&& c < 256 := Nat.lt_of_le_of_lt Nat.and_le_right hc2
  apply Nat.eq_of_testBit_eq
  intro i
  rw [Nat.testBit_and, Nat.testBit_div_two_pow, k_tb hb, k_tb hc2, k_tb hl]
  by_cases hi : i < 8
  · simp only [hi, if_true, Nat.testBit_and, Nat.testBit_div_two_pow]
    by_cases his : i + s < 8
    · simp [his]
    · have hci : c.testBit i = false := Nat.testBit_lt_two_pow (Nat.lt_of_lt_of_le hc (Nat.pow_le_pow_right (by omega) (by omega)))
      simp [hci]
  · have h9 : ¬ i + s < 8 := by omega
    simp only [hi, h9, if_false, Nat.testBit_and, Nat.testBit_div_two_pow]
    rw [show i - 8 + s = i + s - 8 by omega]
theorem k_LN_and {c s : Nat} (hs : s ≤ 8) (hc : c < 2 ^ (8 - s)) : ∀ k X, (X / 2 ^ s) &&& k_mk c k = k_LN (fun b => (b / 2 ^ s) &&& c) k X := by
  intro k
  induction k with
  | zero => intro X; simp [k_mk, k_LN]
  | succ k ih =>
    intro X
    have hX : X = 256 * (X / 256) + X % 256 := by omega
    simp only [k_mk, k_LN]
    rw [← ih (X / 256)]
    conv => lhs; rw [hX]
    exact k_lane (Nat.mod_lt _ (by omega)) hs hc
theorem k_LN_id : ∀ k X, X < 256 ^ k → k_LN (fun b => b) k X = X := by
  intro k
  induction k with
  | zero => intro X h; simp at h; simp [k_LN, h]
  | succ k ih =>
    intro X h
    rw [Nat.pow_succ] at h
    simp only [k_LN]
    rw [ih (X / 256) (by omega)]
    omega
theorem k_LN_lt {f : Nat → Nat} (hf : ∀ b, b < 256 → f b < 256) : ∀ k X, k_LN f k X < 256 ^ k := by
  intro k
  induction k with
  | zero => intro X; simp [k_LN]
  | succ k ih =>
    intro X
    have h1 := ih (X / 256)
    have h2 := hf (X % 256) (Nat.mod_lt _ (by omega))
    simp only [k_LN]
    rw [Nat.pow_succ]
    omega
theorem k_LN_comp {f g : Nat → Nat} (hf : ∀ b, b < 256 → f b < 256) : ∀ k X, k_LN g k (k_LN f k X) = k_LN (fun b => g (f b)) k X := by
  intro k
  induction k with
  | zero => intro X; rfl
  | succ k ih =>
    intro X
    have h2 := hf (X % 256) (Nat.mod_lt _ (by omega))
    simp only [k_LN]
    rw [show (256 * k_LN f k (X / 256) + f (X % 256)) / 256 = k_LN f k (X / 256) by omega, show (256 * k_LN f k (X / 256) + f (X % 256)) % 256 = f (X % 256) by omega, ih]
theorem k_LN_add (f g : Nat → Nat) : ∀ k X, k_LN f k X + k_LN g k X = k_LN (fun b => f b + g b) k X := by
  intro k
  induction k with
  | zero => intro X; rfl
  | succ k ih => intro X; simp only [k_LN]; rw [← ih]; omega
theorem k_LN_sub {f g : Nat → Nat} (h : ∀ b, b < 256 → g b ≤ f b) : ∀ k X, k_LN g k X ≤ k_LN f k X ∧ k_LN f k X - k_LN g k X = k_LN (fun b => f b - g b) k X := by
  intro k
  induction k with
  | zero => intro X; exact ⟨Nat.le_refl _, rfl⟩
  | succ k ih =>
    intro X
    have h1 := ih (X / 256)
    have h2 := h (X % 256) (Nat.mod_lt _ (by omega))
    simp only [k_LN]
    rw [← h1.2]
    omega
theorem k_LN_cong {f g : Nat → Nat} (h : ∀ b, b < 256 → f b = g b) : ∀ k X, k_LN f k X = k_LN g k X := by
  intro k
  induction k with
  | zero => intro X; rfl
  | succ k ih => intro X; simp only [k_LN]; rw [ih, h _ (Nat.mod_lt _ (by omega))]
/-- nibbles joined -/
theorem k_nib {f : Nat → Nat} (hf : ∀ b, b < 256 → f b / 16 ≤ 4 ∧ f b % 16 ≤ 4) : ∀ k X, (k_LN f k X + k_LN f k X / 16) &&& k_mk 15 k = k_LN (fun b => f b / 16 + f b % 16) k X := by
  intro k
  induction k with
  | zero => intro X; simp [k_mk, k_LN]
  | succ k ih =>
    intro X
    have h1 := hf (X % 256) (Nat.mod_lt _ (by omega))
    have h16 : k_LN f k (X / 256) % 16 ≤ 4 := by
      cases k with
      | zero => simp [k_LN]
      | succ k =>
        have h3 := hf (X / 256 % 256) (Nat.mod_lt _ (by omega))
        simp only [k_LN]
        omega
    simp only [k_mk, k_LN]
    rw [← ih (X / 256)]
    generalize k_LN f k (X / 256) = Y at h16 ⊢
    generalize f (X % 256) = b at h1 ⊢
    have e : 256 * Y + b + (256 * Y + b) / 16 = 256 * (Y + Y / 16) + (16 * (Y % 16) + b + b / 16) := by omega
    rw [e]
    have hl := k_lane (a := Y + Y / 16) (b := 16 * (Y % 16) + b + b / 16) (m := k_mk 15 k) (c := 15) (s := 0) (by omega) (by omega) (by decide)
    simp only [Nat.pow_zero, Nat.div_one] at hl
    rw [hl]
    have : (16 * (Y % 16) + b + b / 16) &&& 15 = (16 * (Y % 16) + b + b / 16) % 16 := Nat.and_two_pow_sub_one_eq_mod _ 4
    rw [this]
    omega
def k_p8 (b : Nat) : Nat := let c := b - (b / 2 &&& 85); let d := (c &&& 51) + (c / 4 &&& 51); d / 16 + d % 16
set_option maxRecDepth 20000 in
theorem k_p8_ok : ∀ b, b < 256 → k_p8 b = fb_ct b.testBit 8 ∧ k_p8 b ≤ 8 ∧ (b / 2 &&& 85) ≤ b ∧ (let c := b - (b / 2 &&& 85); c < 256 ∧ (c &&& 51) + (c / 4 &&& 51) < 256 ∧ ((c &&& 51) + (c / 4 &&& 51)) / 16 ≤ 4 ∧ ((c &&& 51) + (c / 4 &&& 51)) % 16 ≤ 4) := by decide +kernel
def k_S8 : Nat → Nat → Nat
  | 0, _ => 0
  | k + 1, X => k_S8 k (X / 256) + k_p8 (X % 256)
theorem k_S8_ct : ∀ k X, k_S8 k X = fb_ct X.testBit (8 * k) := by
  intro k
  induction k with
  | zero => intro X; rfl
  | succ k ih =>
    intro X
    have hX : X = 256 * (X / 256) + X % 256 := by omega
    have hm : X % 256 < 256 := Nat.mod_lt _ (by omega)
    simp only [k_S8]
    rw [ih, (k_p8_ok _ hm).1, show 8 * (k + 1) = 8 + 8 * k by omega, fb_ct_split, Nat.add_comm]
    congr 1
    · apply fb_ct_cong
      intro i hi
      conv => rhs; rw [hX]
      rw [k_tb hm, if_pos hi]
    · apply fb_ct_cong
      intro i hi
      conv => rhs; rw [hX]
      rw [k_tb hm, if_neg (by omega), show 8 + i - 8 = i by omega]
set_option maxHeartbeats 2000000 in
/-- Long.bitCount counts the bits -/
theorem k_pc_ct (x : Int64) : k_pc x = nI (fb_ct (uN x).testBit 64) := by
  have hX : uN x < 256 ^ 8 := uN_lt x
  have hp := k_p8_ok
  -- the first three lines
  have h1 : uN (k_pc1 x) = k_LN (fun b => b - (b / 2 &&& 85)) 8 (uN x) := by
    unfold k_pc1
    have e : uN (k_shr x 1 &&& 6148914691236517205) = k_LN (fun b => b / 2 ^ 1 &&& 85) 8 (uN x) := by
      rw [uN_and, k_shr_n x (by omega), ← k_LN_and (s := 1) (c := 85) (by omega) (by decide)]
      rfl
    have hs := k_LN_sub (f := fun b => b) (g := fun b => b / 2 ^ 1 &&& 85) (fun b hb => (hp b hb).2.2.1) 8 (uN x)
    rw [k_LN_id 8 _ hX] at hs
    rw [uN_sub (by rw [e]; exact hs.1), e, hs.2]
  have h2 : uN (k_pc2 (k_pc1 x)) = k_LN (fun b => ((b - (b / 2 &&& 85)) &&& 51) + ((b - (b / 2 &&& 85)) / 4 &&& 51)) 8 (uN x) := by
    unfold k_pc2
    have hf1 : ∀ b, b < 256 → b - (b / 2 &&& 85) < 256 := fun b hb => by omega
    have ea : uN (k_pc1 x &&& 3689348814741910323) = k_LN (fun b => (b - (b / 2 &&& 85)) &&& 51) 8 (uN x) := by
      have h0 := k_LN_and (s := 0) (c := 51) (by omega) (by decide) 8 (uN (k_pc1 x))
      simp only [Nat.pow_zero, Nat.div_one] at h0
      rw [uN_and, show uN (3689348814741910323 : Int64) = k_mk 51 8 from rfl, h0, h1, k_LN_comp hf1]
    have eb : uN (k_shr (k_pc1 x) 2 &&& 3689348814741910323) = k_LN (fun b => (b - (b / 2 &&& 85)) / 4 &&& 51) 8 (uN x) := by
      have h0 := k_LN_and (s := 2) (c := 51) (by omega) (by decide) 8 (uN (k_pc1 x))
      rw [uN_and, k_shr_n _ (by omega), show uN (3689348814741910323 : Int64) = k_mk 51 8 from rfl, h0, h1, k_LN_comp hf1]
    have hlt := k_LN_lt (f := fun b => ((b - (b / 2 &&& 85)) &&& 51) + ((b - (b / 2 &&& 85)) / 4 &&& 51)) (fun b hb => (hp b hb).2.2.2.2.1) 8 (uN x)
    rw [uN_add, ea, eb, k_LN_add]
    exact Nat.mod_eq_of_lt hlt
  have h3 : uN (k_pc3 (k_pc2 (k_pc1 x))) = k_LN k_p8 8 (uN x) := by
    unfold k_pc3
    have hlt := k_LN_lt (f := fun b => ((b - (b / 2 &&& 85)) &&& 51) + ((b - (b / 2 &&& 85)) / 4 &&& 51)) (fun b hb => (hp b hb).2.2.2.2.1) 8 (uN x)
    have hn := k_nib (f := fun b => ((b - (b / 2 &&& 85)) &&& 51) + ((b - (b / 2 &&& 85)) / 4 &&& 51)) (fun b hb => (hp b hb).2.2.2.2.2) 8 (uN x)
    have e : uN (k_pc2 (k_pc1 x) + k_shr (k_pc2 (k_pc1 x)) 4) = uN (k_pc2 (k_pc1 x)) + uN (k_pc2 (k_pc1 x)) / 16 := by
      rw [uN_add, k_shr_n _ (by omega)]
      apply Nat.mod_eq_of_lt
      -- the top byte is at most 68
      have hb : uN (k_pc2 (k_pc1 x)) < 256 ^ 7 * 69 := by
        rw [h2]
        have key : ∀ k X, k_LN (fun b => ((b - (b / 2 &&& 85)) &&& 51) + ((b - (b / 2 &&& 85)) / 4 &&& 51)) (k + 1) X < 256 ^ k * 69 := by
          intro k
          induction k with
          | zero =>
            intro X
            have := (hp (X % 256) (Nat.mod_lt _ (by omega))).2.2.2.2.2
            simp only [k_LN]
            omega
          | succ k ih =>
            intro X
            have h9 := ih (X / 256)
            have := (hp (X % 256) (Nat.mod_lt _ (by omega))).2.2.2.2.1
            rw [k_LN, Nat.pow_succ]
            omega
        exact key 7 _
      have : (2 : Nat) ^ 4 = 16 := rfl
      omega
    rw [uN_and, e, show uN (1085102592571150095 : Int64) = k_mk 15 8 from rfl, h2, hn]
    rfl
  generalize hy : k_pc3 (k_pc2 (k_pc1 x)) = y at h3
  have hS : k_S8 8 (uN x) = fb_ct (uN x).testBit 64 := k_S8_ct 8 (uN x)
  rw [← hS]
  have hb : ∀ z, k_p8 (z % 256) ≤ 8 := fun z => (hp _ (Nat.mod_lt _ (by omega))).2.1
  have h4 : k_pc x = (k_pcs 32 (k_pcs 16 (k_pcs 8 y))).toInt32 &&& nI 127 := by unfold k_pc; rw [hy]
  rw [h4]
  simp only [k_LN, k_S8] at h3 ⊢
  have g0 := hb (uN x)
  have g1 := hb (uN x / 256)
  have g2 := hb (uN x / 256 / 256)
  have g3 := hb (uN x / 256 / 256 / 256)
  have g4 := hb (uN x / 256 / 256 / 256 / 256)
  have g5 := hb (uN x / 256 / 256 / 256 / 256 / 256)
  have g6 := hb (uN x / 256 / 256 / 256 / 256 / 256 / 256)
  have g7 := hb (uN x / 256 / 256 / 256 / 256 / 256 / 256 / 256)
  generalize k_p8 (uN x % 256) = e0 at *
  generalize k_p8 (uN x / 256 % 256) = e1 at *
  generalize k_p8 (uN x / 256 / 256 % 256) = e2 at *
  generalize k_p8 (uN x / 256 / 256 / 256 % 256) = e3 at *
  generalize k_p8 (uN x / 256 / 256 / 256 / 256 % 256) = e4 at *
  generalize k_p8 (uN x / 256 / 256 / 256 / 256 / 256 % 256) = e5 at *
  generalize k_p8 (uN x / 256 / 256 / 256 / 256 / 256 / 256 % 256) = e6 at *
  generalize k_p8 (uN x / 256 / 256 / 256 / 256 / 256 / 256 / 256 % 256) = e7 at *
  have a8 : uN (k_pcs 8 y) = uN y + uN y / 256 := by
    unfold k_pcs
    rw [uN_add, k_shr_n _ (by omega)]
    exact Nat.mod_eq_of_lt (by omega)
  have a16 : uN (k_pcs 16 (k_pcs 8 y)) = uN (k_pcs 8 y) + uN (k_pcs 8 y) / 65536 := by
    unfold k_pcs at a8 ⊢
    rw [uN_add, k_shr_n _ (by omega)]
    exact Nat.mod_eq_of_lt (by omega)
  have a32 : uN (k_pcs 32 (k_pcs 16 (k_pcs 8 y))) = uN (k_pcs 16 (k_pcs 8 y)) + uN (k_pcs 16 (k_pcs 8 y)) / 4294967296 := by
    unfold k_pcs at a8 a16 ⊢
    rw [uN_add, k_shr_n _ (by omega)]
    exact Nat.mod_eq_of_lt (by omega)
  generalize hw : k_pcs 32 (k_pcs 16 (k_pcs 8 y)) = w at a32
  have hm : w.toInt32 &&& nI 127 = nI (uN w % 128) := by
    have h9 : w.toInt32.toBitVec.toNat = uN w % 2 ^ 32 := by
      show (w.toBitVec.signExtend 32).toNat = w.toBitVec.toNat % 2 ^ 32
      rw [BitVec.signExtend_eq_setWidth_of_le _ (by omega)]
      rfl
    have h10 := pk_and w.toInt32 (m := nI 127) 7 (by decide)
    rw [h10, h9]
    congr 1
    omega
  rw [hm]
  congr 1
  have b8 : uN y / 256 = e1 + 256 * e2 + 65536 * e3 + 16777216 * e4 + 4294967296 * e5 + 1099511627776 * e6 + 281474976710656 * e7 := by clear a8 a16 a32 hm; omega
  have c8 : uN (k_pcs 8 y) = (e0 + e1) + 256 * (e1 + e2) + 65536 * (e2 + e3) + 16777216 * (e3 + e4) + 4294967296 * (e4 + e5) + 1099511627776 * (e5 + e6) + 281474976710656 * (e6 + e7) + 72057594037927936 * e7 := by rw [a8, b8]; clear a8 a16 a32 hm b8; omega
  have b16 : uN (k_pcs 8 y) / 65536 = (e2 + e3) + 256 * (e3 + e4) + 65536 * (e4 + e5) + 16777216 * (e5 + e6) + 4294967296 * (e6 + e7) + 1099511627776 * e7 := by rw [c8]; clear a8 a16 a32 hm b8 c8; omega
  have c16 : uN (k_pcs 16 (k_pcs 8 y)) = (e0 + e1 + e2 + e3) + 256 * (e1 + e2 + e3 + e4) + 65536 * (e2 + e3 + e4 + e5) + 16777216 * (e3 + e4 + e5 + e6) + 4294967296 * (e4 + e5 + e6 + e7) + 1099511627776 * (e5 + e6 + e7) + 281474976710656 * (e6 + e7) + 72057594037927936 * e7 := by rw [a16, b16, c8]; clear a8 a16 a32 hm b8 c8 b16; omega
  have b32 : uN (k_pcs 16 (k_pcs 8 y)) / 4294967296 = (e4 + e5 + e6 + e7) + 256 * (e5 + e6 + e7) + 65536 * (e6 + e7) + 16777216 * e7 := by rw [c16]; clear a8 a16 a32 hm b8 c8 b16 c16; omega
  rw [a32, b32, c16]
  clear a8 a16 a32 hm b8 c8 b16 c16 b32
  omega
end
section
/-! SQUARES: rectangle, around, isJoined, stepsToAll -/
theorem k_rem10 {a : Nat} (h : a < 1000) : nI a - nI a / nI 10 * nI 10 = nI (a % 10) := pk_rem (by omega) (by omega) (by omega)
theorem k_div10 {a : Nat} (h : a < 1000) : nI a / nI 10 = nI (a / 10) := pk_div (by omega) (by omega) (by omega)
theorem k_minN {a b : Nat} (ha : a < 1000) (hb : b < 1000) : (if nI b < nI a then nI b else nI a) = nI (min a b) := by
  by_cases h : b < a
  · rw [if_pos (nI_lt h (by omega)), Nat.min_eq_right (by omega)]
  · rw [if_neg (nI_nlt (by omega) (by omega)), Nat.min_eq_left (by omega)]
theorem k_maxN {a b : Nat} (ha : a < 1000) (hb : b < 1000) : (if nI a < nI b then nI b else nI a) = nI (max a b) := by
  by_cases h : a < b
  · rw [if_pos (nI_lt h (by omega)), Nat.max_eq_right (by omega)]
  · rw [if_neg (nI_nlt (by omega) (by omega)), Nat.max_eq_left (by omega)]
theorem k_succ (i : Nat) : nI (i + 1) = nI i + nI 1 := (nI_succ i).trans (by rw [show (1 : Int32) = nI 1 by decide])
def k_row (l r : Nat) : Int64 := k_shl (k_shl (Int64.ofNat 1) (r - l + 1) - Int64.ofNat 1) l
def k_rect (l r t : Nat) : Nat → Int64
  | 0 => Int64.ofNat 0
  | n + 1 => k_rect l r t n ||| k_shl (k_row l r) (10 * (t + n))
/-- the rectangle with corners a and b -/
def k_rc (a b : Nat) : Int64 := k_rect (min (a % 10) (b % 10)) (max (a % 10) (b % 10)) (min (a / 10) (b / 10)) (max (a / 10) (b / 10) + 1 - min (a / 10) (b / 10))
/-- is square s in it -/
def k_in (a b s : Nat) : Bool := decide (min (a % 10) (b % 10) ≤ s % 10) && decide (s % 10 ≤ max (a % 10) (b % 10)) && decide (min (a / 10) (b / 10) ≤ s / 10) && decide (s / 10 ≤ max (a / 10) (b / 10))
section
variable {l : Launch} {E : mE} {N : Nat} {xs : Nat → Int32} {d : Nat} {tg : Bool} {h : mH}
set_option maxHeartbeats 2000000 in
theorem s_rect (a b : Nat) (ha : a < 60) (hb : b < 60) : m_Dt l (m_EX E N xs) E mM_X5_rectangle d 0 0 [.int (nI a), .int (nI b)] h tg (some (.long (k_rc a b))) h tg := by
  have hM := mM_X5_rectangle_ok
  refine m_Sp_of (by decide) (Nat.le_of_ble_eq_true rfl) ?_
  refine m_J_run hM 6 rfl ⟨trivial, trivial, (by decide), trivial, trivial, (by decide), trivial⟩ ?_
  rw [k_rem10 (a := a) (by omega), k_rem10 (a := b) (by omega)]
  refine m_min hM rfl kw_X5_15 (Nat.le_of_ble_eq_true rfl) (Nat.le_of_ble_eq_true rfl) (Nat.le_of_ble_eq_true rfl) ?_
  rw [k_minN (a := a % 10) (b := b % 10) (by omega) (by omega)]
  refine m_J_run hM 7 rfl ⟨trivial, trivial, trivial, (by decide), trivial, trivial, (by decide), trivial⟩ ?_
  rw [k_rem10 (a := a) (by omega), k_rem10 (a := b) (by omega)]
  refine m_max hM rfl kw_X5_21 (Nat.le_of_ble_eq_true rfl) (Nat.le_of_ble_eq_true rfl) (Nat.le_of_ble_eq_true rfl) ?_
  rw [k_maxN (a := a % 10) (b := b % 10) (by omega) (by omega)]
  refine m_J_run hM 7 rfl ⟨trivial, trivial, trivial, (by decide), trivial, trivial, (by decide), trivial⟩ ?_
  rw [k_div10 (a := a) (by omega), k_div10 (a := b) (by omega)]
  refine m_min hM rfl kw_X5_15 (Nat.le_of_ble_eq_true rfl) (Nat.le_of_ble_eq_true rfl) (Nat.le_of_ble_eq_true rfl) ?_
  rw [k_minN (a := a / 10) (b := b / 10) (by omega) (by omega)]
  refine m_J_run hM 7 rfl ⟨trivial, trivial, trivial, (by decide), trivial, trivial, (by decide), trivial⟩ ?_
  rw [k_div10 (a := a) (by omega), k_div10 (a := b) (by omega)]
  refine m_max hM rfl kw_X5_21 (Nat.le_of_ble_eq_true rfl) (Nat.le_of_ble_eq_true rfl) (Nat.le_of_ble_eq_true rfl) ?_
  rw [k_maxN (a := a / 10) (b := b / 10) (by omega) (by omega)]
  have h1 : min (a % 10) (b % 10) ≤ max (a % 10) (b % 10) := by omega
  have h2 : max (a % 10) (b % 10) ≤ 9 := by omega
  have h3 : min (a / 10) (b / 10) ≤ max (a / 10) (b / 10) := by omega
  have h4 : max (a / 10) (b / 10) ≤ 5 := by omega
  unfold k_rc
  generalize min (a % 10) (b % 10) = lf at h1 ⊢
  generalize max (a % 10) (b % 10) = rt at h1 h2 ⊢
  generalize min (a / 10) (b / 10) = tp at h3 ⊢
  generalize max (a / 10) (b / 10) = bm at h3 h4 ⊢
  refine m_J_run hM 5 rfl ⟨trivial, trivial, trivial, trivial, trivial, trivial⟩ ?_
  rw [show nI rt - nI lf = nI (rt - lf) from pk_sub h1]
  refine m_J_run hM 2 rfl ⟨trivial, trivial, trivial⟩ ?_
  rw [← k_succ (rt - lf)]
  refine m_J_run hM 10 rfl ⟨trivial, trivial, trivial, trivial, trivial, trivial, trivial, trivial, trivial, trivial, trivial⟩ ?_
  have loop : ∀ n i : Nat, i + n = bm + 1 - tp → m_J l (m_EX E N xs) E mM_X5_rectangle d 0 0 (m_K (some (.long (k_rect lf rt tp (bm + 1 - tp)))) h tg) m_no tg 0 0 (70, [some (.int (nI a)), some (.int (nI b)), some (.int (nI lf)), some (.int (nI rt)), some (.int (nI tp)), some (.int (nI bm)), some (.long (k_row lf rt)), none, some (.long (k_rect lf rt tp i)), none, some (.int (nI (tp + i)))], [], h) := by
    intro n
    induction n with
    | zero =>
      intro i hi
      refine m_J_run hM 3 rfl ⟨trivial, trivial, trivial, trivial⟩ ?_
      refine m_J_if (fun _ => ?_) (fun hc => absurd (nI_lt (by omega) (by omega)) hc)
      refine m_J_run hM 1 rfl ⟨trivial, trivial⟩ ?_
      exact m_lret hM rfl rfl (Nat.le_of_ble_eq_true rfl) (Nat.le_of_ble_eq_true rfl) (by rw [show bm + 1 - tp = i by omega]) (rfl)
    | succ n ih =>
      intro i hi
      refine m_J_run hM 3 rfl ⟨trivial, trivial, trivial, trivial⟩ ?_
      refine m_J_if (fun hc => absurd hc (nI_nlt (by omega) (by omega))) (fun _ => ?_)
      refine m_J_run hM 5 rfl ⟨trivial, trivial, trivial, trivial, trivial, trivial⟩ ?_
      rw [show nI 10 * nI (tp + i) = nI (10 * (tp + i)) from pk_mul 10 (tp + i)]
      refine m_J_run hM 5 rfl ⟨trivial, trivial, trivial, trivial, trivial, trivial⟩ ?_
      refine m_eqS (ih (i + 1) (by omega)) ?_
      rw [show tp + (i + 1) = tp + i + 1 by omega, k_succ (tp + i)]
      rfl
  exact loop (bm + 1 - tp) 0 (by omega)
end
end
section
/-! SQUARES: around, isJoined, stepsToAll -/
theorem k_subN {a b : Nat} (ha : a < 1000) (hb : b < 1000) : (if nI 0 < nI a - nI b then nI a - nI b else nI 0) = nI (a - b) := by
  by_cases h : b < a
  · rw [show nI a - nI b = nI (a - b) from pk_sub (by omega), if_pos (nI_lt (by omega) (by omega))]
  · rw [if_neg, show a - b = 0 by omega]
    by_cases h2 : a = b
    · subst h2
      rw [show nI a - nI a = nI (a - a) from pk_sub (Nat.le_refl a), Nat.sub_self]
      exact nI_nlt (Nat.le_refl 0) (by omega)
    · have := pk_sneg (a := a) (b := b) (by omega) (by omega)
      intro h3
      rw [show nI 0 = 0 from nI_0] at h3
      exact absurd (Int32.lt_trans this h3) (Int32.lt_irrefl)
/-- all other squares so near -/
def k_ar (a k : Nat) : Int64 := k_rc (10 * (a / 10 - k) + (a % 10 - k)) (10 * min 5 (a / 10 + k) + min 9 (a % 10 + k)) &&& (k_only a ^^^ (-1))
/-- one more step over open squares -/
def k_grow (r o : Int64) : Int64 := r ||| (k_bes r &&& o)
def k_gr (r o : Int64) : Nat → Int64
  | 0 => r
  | n + 1 => k_grow (k_gr r o n) o
def k_jo (x : Int64) : Bool := decide (k_gr (x &&& -x) x 60 = x)
theorem k_gr_fix {r o : Int64} {i : Nat} (h : k_grow (k_gr r o i) o = k_gr r o i) : ∀ n, k_gr r o (i + n) = k_gr r o i := by
  intro n
  induction n with
  | zero => rfl
  | succ n ih =>
    show k_grow (k_gr r o (i + n)) o = _
    rw [ih, h]
/-- the first step count at which all goals are reached -/
def k_st (g r o : Int64) : Nat → Nat → Int32
  | 0, _ => -nI 1
  | n + 1, i => if g &&& (k_gr r o i ^^^ (-1)) = 0 then nI i else k_st g r o n (i + 1)
section
variable {l : Launch} {E : mE} {N : Nat} {xs : Nat → Int32} {d : Nat} {tg : Bool} {h : mH}
set_option maxHeartbeats 2000000 in
theorem s_around (a k : Nat) (ha : a < 60) (hk : k < 10) : m_Dt l (m_EX E N xs) E mM_X5_around (d + 1) 0 0 [.int (nI a), .int (nI k)] h tg (some (.long (k_ar a k))) h tg := by
  have hM := mM_X5_around_ok
  refine m_Sp_of (by decide) (Nat.le_of_ble_eq_true rfl) ?_
  refine m_J_run hM 8 rfl ⟨trivial, trivial, (by decide), trivial, trivial, trivial, (by decide), trivial, trivial⟩ ?_
  rw [k_rem10 (a := a) (by omega), k_div10 (a := a) (by omega)]
  refine m_J_run hM 4 rfl ⟨trivial, trivial, trivial, trivial, trivial⟩ ?_
  refine m_max hM rfl kw_X5_21 (Nat.le_of_ble_eq_true rfl) (Nat.le_of_ble_eq_true rfl) (Nat.le_of_ble_eq_true rfl) ?_
  rw [k_subN (a := a % 10) (b := k) (by omega) (by omega)]
  refine m_J_run hM 5 rfl ⟨trivial, trivial, trivial, trivial, trivial, trivial⟩ ?_
  rw [nI_add]
  refine m_min hM rfl kw_X5_15 (Nat.le_of_ble_eq_true rfl) (Nat.le_of_ble_eq_true rfl) (Nat.le_of_ble_eq_true rfl) ?_
  rw [k_minN (a := 9) (b := a % 10 + k) (by omega) (by omega)]
  refine m_J_run hM 5 rfl ⟨trivial, trivial, trivial, trivial, trivial, trivial⟩ ?_
  refine m_max hM rfl kw_X5_21 (Nat.le_of_ble_eq_true rfl) (Nat.le_of_ble_eq_true rfl) (Nat.le_of_ble_eq_true rfl) ?_
  rw [k_subN (a := a / 10) (b := k) (by omega) (by omega)]
  refine m_J_run hM 5 rfl ⟨trivial, trivial, trivial, trivial, trivial, trivial⟩ ?_
  rw [nI_add]
  refine m_min hM rfl kw_X5_15 (Nat.le_of_ble_eq_true rfl) (Nat.le_of_ble_eq_true rfl) (Nat.le_of_ble_eq_true rfl) ?_
  rw [k_minN (a := 5) (b := a / 10 + k) (by omega) (by omega)]
  refine m_J_run hM 11 rfl ⟨trivial, trivial, trivial, trivial, trivial, trivial, trivial, trivial, trivial, trivial, trivial, trivial⟩ ?_
  rw [show nI 10 * nI (a / 10 - k) = nI (10 * (a / 10 - k)) from pk_mul 10 _, show nI 10 * nI (min 5 (a / 10 + k)) = nI (10 * min 5 (a / 10 + k)) from pk_mul 10 _, nI_add, nI_add]
  refine m_callS (as := [.int (nI (10 * (a / 10 - k) + (a % 10 - k))), .int (nI (10 * min 5 (a / 10 + k) + min 9 (a % 10 + k)))]) (rest := []) (m_EX_warm E N xs) hM rfl kw_X5_24 rfl (s_rect _ _ (by omega) (by omega)) rfl (Nat.le_of_ble_eq_true rfl) (Nat.le_of_ble_eq_true rfl) (Nat.le_of_ble_eq_true rfl) (fun ht => ⟨ht, Nat.le_refl _⟩) ?_
  refine m_J_run hM 1 rfl ⟨trivial, trivial⟩ ?_
  refine m_callS (as := [.int (nI a)]) (rest := [.long (k_rc (10 * (a / 10 - k) + (a % 10 - k)) (10 * min 5 (a / 10 + k) + min 9 (a % 10 + k)))]) (m_EX_warm E N xs) hM rfl kw_X5_11 rfl (s_only a) rfl (Nat.le_of_ble_eq_true rfl) (Nat.le_of_ble_eq_true rfl) (Nat.le_of_ble_eq_true rfl) (fun ht => ⟨ht, Nat.le_refl _⟩) ?_
  refine m_J_run hM 3 rfl ⟨trivial, trivial, trivial, trivial⟩ ?_
  exact m_lret hM rfl rfl (Nat.le_of_ble_eq_true rfl) (Nat.le_of_ble_eq_true rfl) (rfl) (rfl)
set_option maxHeartbeats 2000000 in
theorem s_joined (x : Int64) : m_Dt l (m_EX E N xs) E mM_X5_isJoined (d + 1) 0 0 [.long x] h tg (some (.int (k_z (k_jo x)))) h tg := by
  have hM := mM_X5_isJoined_ok
  refine m_Sp_of (by decide) (Nat.le_of_ble_eq_true rfl) ?_
  refine m_J_run hM 9 rfl ⟨trivial, trivial, trivial, trivial, trivial, trivial, trivial, trivial, trivial, trivial⟩ ?_
  have fin : ∀ (L4 : Option Value) (L7 : Option Value), m_J l (m_EX E N xs) E mM_X5_isJoined (d + 1) 0 0 (m_K (some (.int (k_z (k_jo x)))) h tg) m_no tg 0 0 (51, [some (.long x), none, some (.long (x &&& -x)), none, some (.long (k_gr (x &&& -x) x 60)), none, L4, L7, none], [], h) := by
    intro L4 L7
    refine m_J_run hM 4 rfl ⟨trivial, trivial, trivial, trivial, trivial⟩ ?_
    refine m_J_if (fun hc => ?_) (fun hc => ?_)
    · refine m_J_run hM 1 rfl ⟨trivial, trivial⟩ ?_
      exact m_iret hM rfl rfl (by decide) (Nat.le_of_ble_eq_true rfl) (Nat.le_of_ble_eq_true rfl) (by rw [k_lcmp0] at hc; simp [k_z, k_jo, hc]) (rfl)
    · refine m_J_run hM 2 rfl ⟨trivial, trivial, trivial⟩ ?_
      exact m_iret hM rfl rfl (by decide) (Nat.le_of_ble_eq_true rfl) (Nat.le_of_ble_eq_true rfl) (by rw [k_lcmp0] at hc; simp [k_z, k_jo, Classical.not_not.mp hc]) (rfl)
  have loop : ∀ (n i : Nat) (L7 : Option Value), i + n = 60 → m_J l (m_EX E N xs) E mM_X5_isJoined (d + 1) 0 0 (m_K (some (.int (k_z (k_jo x)))) h tg) m_no tg 0 0 (11, [some (.long x), none, some (.long (x &&& -x)), none, some (.long (k_gr (x &&& -x) x i)), none, some (.int (nI i)), L7, none], [], h) := by
    intro n
    induction n with
    | zero =>
      intro i L7 hi
      have e : i = 60 := by omega
      subst e
      refine m_J_run hM 3 rfl ⟨trivial, trivial, trivial, trivial⟩ ?_
      refine m_J_if (fun _ => ?_) (fun hc => absurd (by decide) hc)
      exact fin _ _
    | succ n ih =>
      intro i L7 hi
      refine m_J_run hM 3 rfl ⟨trivial, trivial, trivial, trivial⟩ ?_
      refine m_J_if (fun hc => absurd hc (nI_ge (by omega) (by omega))) (fun _ => ?_)
      refine m_J_run hM 2 rfl ⟨trivial, trivial, trivial⟩ ?_
      refine m_callS (as := [.long (k_gr (x &&& -x) x i)]) (rest := [.long (k_gr (x &&& -x) x i)]) (m_EX_warm E N xs) hM rfl kw_X5_36 rfl (s_bes _) rfl (Nat.le_of_ble_eq_true rfl) (Nat.le_of_ble_eq_true rfl) (Nat.le_of_ble_eq_true rfl) (fun ht => ⟨ht, Nat.le_refl _⟩) ?_
      refine m_J_run hM 8 rfl ⟨trivial, trivial, trivial, trivial, trivial, trivial, trivial, trivial, trivial⟩ ?_
      refine m_J_if (fun hc => ?_) (fun hc => ?_)
      · refine m_J_run hM 4 rfl ⟨trivial, trivial, trivial, trivial, trivial⟩ ?_
        refine m_eqS (ih (i + 1) (some (.long (k_grow (k_gr (x &&& -x) x i) x))) (by omega)) ?_
        rw [k_succ i]
        rfl
      · rw [k_lcmp0] at hc
        have hc2 : k_grow (k_gr (x &&& -x) x i) x = k_gr (x &&& -x) x i := Classical.not_not.mp hc
        refine m_J_run hM 1 rfl ⟨trivial, trivial⟩ ?_
        refine m_eqS (fin (some (.int (nI i))) (some (.long (k_grow (k_gr (x &&& -x) x i) x)))) ?_
        have e := k_gr_fix hc2 (60 - i)
        rw [show i + (60 - i) = 60 by omega] at e
        rw [e]
        rfl
  exact loop 60 0 none rfl
set_option maxHeartbeats 2000000 in
theorem s_steps (g o : Int64) (a : Nat) : m_Dt l (m_EX E N xs) E mM_X5_stepsToAll (d + 1) 0 0 [.long g, .int (nI a), .long o] h tg (some (.int (k_st g (k_only a) o 60 0))) h tg := by
  have hM := mM_X5_stepsToAll_ok
  refine m_Sp_of (by decide) (Nat.le_of_ble_eq_true rfl) ?_
  refine m_J_run hM 1 rfl ⟨trivial, trivial⟩ ?_
  refine m_callS (as := [.int (nI a)]) (rest := []) (m_EX_warm E N xs) hM rfl kw_X5_11 rfl (s_only a) rfl (Nat.le_of_ble_eq_true rfl) (Nat.le_of_ble_eq_true rfl) (Nat.le_of_ble_eq_true rfl) (fun ht => ⟨ht, Nat.le_refl _⟩) ?_
  refine m_J_run hM 3 rfl ⟨trivial, trivial, trivial, trivial⟩ ?_
  have loop : ∀ (n i : Nat), i + n = 60 → m_J l (m_EX E N xs) E mM_X5_stepsToAll (d + 1) 0 0 (m_K (some (.int (k_st g (k_only a) o n i))) h tg) m_no tg 0 0 (9, [some (.long g), none, some (.int (nI a)), some (.long o), none, some (.long (k_gr (k_only a) o i)), none, some (.int (nI i))], [], h) := by
    intro n
    induction n with
    | zero =>
      intro i hi
      have e : i = 60 := by omega
      subst e
      refine m_J_run hM 3 rfl ⟨trivial, trivial, trivial, trivial⟩ ?_
      refine m_J_if (fun _ => ?_) (fun hc => absurd (by decide) hc)
      refine m_J_run hM 1 rfl ⟨trivial, trivial⟩ ?_
      exact m_iret hM rfl rfl rfl (Nat.le_of_ble_eq_true rfl) (Nat.le_of_ble_eq_true rfl) (rfl) (rfl)
    | succ n ih =>
      intro i hi
      refine m_J_run hM 3 rfl ⟨trivial, trivial, trivial, trivial⟩ ?_
      refine m_J_if (fun hc => absurd hc (nI_ge (by omega) (by omega))) (fun _ => ?_)
      refine m_J_run hM 8 rfl ⟨trivial, trivial, trivial, trivial, trivial, trivial, trivial, trivial, trivial⟩ ?_
      refine m_J_if (fun hc => ?_) (fun hc => ?_)
      · rw [k_lcmp0] at hc
        refine m_J_run hM 2 rfl ⟨trivial, trivial, trivial⟩ ?_
        refine m_callS (as := [.long (k_gr (k_only a) o i)]) (rest := [.long (k_gr (k_only a) o i)]) (m_EX_warm E N xs) hM rfl kw_X5_36 rfl (s_bes _) rfl (Nat.le_of_ble_eq_true rfl) (Nat.le_of_ble_eq_true rfl) (Nat.le_of_ble_eq_true rfl) (fun ht => ⟨ht, Nat.le_refl _⟩) ?_
        refine m_J_run hM 6 rfl ⟨trivial, trivial, trivial, trivial, trivial, trivial, trivial⟩ ?_
        have hc2 : ¬ g &&& (k_gr (k_only a) o i ^^^ (-1)) = 0 := hc
        rw [k_st, if_neg hc2]
        refine m_eqS (ih (i + 1) (by omega)) ?_
        rw [k_succ i]
        rfl
      · rw [k_lcmp0] at hc
        have hc2 : g &&& (k_gr (k_only a) o i ^^^ (-1)) = 0 := Classical.not_not.mp hc
        refine m_J_run hM 1 rfl ⟨trivial, trivial⟩ ?_
        exact m_iret hM rfl rfl rfl (Nat.le_of_ble_eq_true rfl) (Nat.le_of_ble_eq_true rfl) (by rw [k_st, if_pos hc2]) (rfl)
  exact loop 60 0 rfl
end
end
section
/-! ARRAYS AT A NUMBERED PLACE; heaps with one cell changed -/
section
variable {l : Launch} {EX : State → Prop} {E : mE} {M : mM} {d mc ms : Nat} {PR : Option Value → mH → Bool → Prop} {PX : String → mH → Prop} {tg : Bool} {kc ks : Nat} {pc t : Nat} {L : List (Option Value)} {h : mH} {r : List Value} {a k n : Nat}
theorem m_ialdN {f : Nat → Int32} (hM : m_okM M = true) (hf : (m_tb M).lookup pc = some (.iaload, t)) (hh : h[a]? = some (.inl (0, n, .inl f))) (hk : k < n) (hn : n < 100000) (hJ : m_J l EX E M d mc ms PR PX tg kc ks (pc + 1, L, .int (f k) :: r, h)) : m_J l EX E M d mc ms PR PX tg kc ks (pc, L, .int (nI k) :: .ref a :: r, h) :=
  m_J_iald hM hf hh (vp_in_nI hk (by omega)) (by rw [nI_clamp (by omega)]; exact hJ)
theorem m_baldN {f : Nat → Int32} (hM : m_okM M = true) (hf : (m_tb M).lookup pc = some (.baload, t)) (hh : h[a]? = some (.inl (2, n, .inl f))) (hk : k < n) (hn : n < 100000) (hJ : m_J l EX E M d mc ms PR PX tg kc ks (pc + 1, L, .int (f k) :: r, h)) : m_J l EX E M d mc ms PR PX tg kc ks (pc, L, .int (nI k) :: .ref a :: r, h) :=
  m_J_bald hM hf hh (vp_in_nI hk (by omega)) (by rw [nI_clamp (by omega)]; exact hJ)
theorem m_zaldN {f : Nat → Int32} (hM : m_okM M = true) (hf : (m_tb M).lookup pc = some (.baload, t)) (hh : h[a]? = some (.inl (3, n, .inl f))) (hk : k < n) (hn : n < 100000) (hJ : m_J l EX E M d mc ms PR PX tg kc ks (pc + 1, L, .int (f k) :: r, h)) : m_J l EX E M d mc ms PR PX tg kc ks (pc, L, .int (nI k) :: .ref a :: r, h) :=
  m_J_zald hM hf hh (vp_in_nI hk (by omega)) (by rw [nI_clamp (by omega)]; exact hJ)
theorem m_laldN {f : Nat → Int64} (hM : m_okM M = true) (hf : (m_tb M).lookup pc = some (.laload, t)) (hh : h[a]? = some (.inl (1, n, .inr (.inl f)))) (hk : k < n) (hn : n < 100000) (hJ : m_J l EX E M d mc ms PR PX tg kc ks (pc + 1, L, .long (f k) :: r, h)) : m_J l EX E M d mc ms PR PX tg kc ks (pc, L, .int (nI k) :: .ref a :: r, h) :=
  m_J_lald hM hf hh (vp_in_nI hk (by omega)) (by rw [nI_clamp (by omega)]; exact hJ)
theorem m_aaldN {ti b : Nat} {f : Nat → Option Nat} (hM : m_okM M = true) (hf : (m_tb M).lookup pc = some (.aaload, t)) (hh : h[a]? = some (.inl (ti, n, .inr (.inr (.inr (.inr f)))))) (hti : (Nat.ble 4 ti && Nat.ble ti 6) = true) (hb : f k = some b) (hk : k < n) (hn : n < 100000) (hJ : m_J l EX E M d mc ms PR PX tg kc ks (pc + 1, L, .ref b :: r, h)) : m_J l EX E M d mc ms PR PX tg kc ks (pc, L, .int (nI k) :: .ref a :: r, h) :=
  m_J_aald hM hf hh hti (vp_in_nI hk (by omega)) (by rw [nI_clamp (by omega), hb]; exact hJ)
theorem m_iastN {f : Nat → Int32} {x : Int32} (hM : m_okM M = true) (hf : (m_tb M).lookup pc = some (.iastore, t)) (hh : h[a]? = some (.inl (0, n, .inl f))) (hk : k < n) (hn : n < 100000) (hJ : m_J l EX E M d mc ms PR PX tg kc ks (pc + 1, L, r, h.set a (.inl (0, n, .inl (upd f k x))))) : m_J l EX E M d mc ms PR PX tg kc ks (pc, L, .int x :: .int (nI k) :: .ref a :: r, h) :=
  m_J_iast hM hf hh (vp_in_nI hk (by omega)) (by rw [nI_clamp (by omega)]; exact hJ)
theorem m_bastN {f : Nat → Int32} {x : Int32} (hM : m_okM M = true) (hf : (m_tb M).lookup pc = some (.bastore, t)) (hh : h[a]? = some (.inl (2, n, .inl f))) (hk : k < n) (hn : n < 100000) (hJ : m_J l EX E M d mc ms PR PX tg kc ks (pc + 1, L, r, h.set a (.inl (2, n, .inl (upd f k (vp_nar .byte x)))))) : m_J l EX E M d mc ms PR PX tg kc ks (pc, L, .int x :: .int (nI k) :: .ref a :: r, h) :=
  m_J_bast hM hf hh (vp_in_nI hk (by omega)) (by rw [nI_clamp (by omega)]; exact hJ)
theorem m_zastN {f : Nat → Int32} {x : Int32} (hM : m_okM M = true) (hf : (m_tb M).lookup pc = some (.bastore, t)) (hh : h[a]? = some (.inl (3, n, .inl f))) (hk : k < n) (hn : n < 100000) (hJ : m_J l EX E M d mc ms PR PX tg kc ks (pc + 1, L, r, h.set a (.inl (3, n, .inl (upd f k (vp_nar .boolean x)))))) : m_J l EX E M d mc ms PR PX tg kc ks (pc, L, .int x :: .int (nI k) :: .ref a :: r, h) :=
  m_J_zast hM hf hh (vp_in_nI hk (by omega)) (by rw [nI_clamp (by omega)]; exact hJ)
theorem m_lastN {f : Nat → Int64} {x : Int64} (hM : m_okM M = true) (hf : (m_tb M).lookup pc = some (.lastore, t)) (hh : h[a]? = some (.inl (1, n, .inr (.inl f)))) (hk : k < n) (hn : n < 100000) (hJ : m_J l EX E M d mc ms PR PX tg kc ks (pc + 1, L, r, h.set a (.inl (1, n, .inr (.inl (vp_updL f k x)))))) : m_J l EX E M d mc ms PR PX tg kc ks (pc, L, .long x :: .int (nI k) :: .ref a :: r, h) :=
  m_J_last hM hf hh (vp_in_nI hk (by omega)) (by rw [nI_clamp (by omega)]; exact hJ)
end
theorem k_ne {h : mH} {a b : Nat} {x : Nat × List Value} {y : ClassId × vp_A} (ha : h[a]? = some (.inr x)) (hb : h[b]? = some (.inl y)) : a ≠ b := by
  intro e
  subst e
  rw [ha] at hb
  cases hb
theorem k_sn {h : mH} {a b : Nat} {c z : va_E} (hab : a ≠ b) (ha : h[a]? = some c) : (h.set b z)[a]? = some c := by rw [List.getElem?_set_ne (Ne.symm hab)]; exact ha
theorem k_ss {h : mH} {b : Nat} {c z : va_E} (hb : h[b]? = some c) : (h.set b z)[b]? = some z := List.getElem?_set_self (List.getElem?_eq_some_iff.mp hb).1
theorem k_s0 {h : mH} {b : Nat} {c : va_E} (hb : h[b]? = some c) : h.set b c = h := by
  apply List.ext_getElem?
  intro i
  by_cases hi : b = i
  · subst hi; rw [k_ss hb, hb]
  · rw [List.getElem?_set_ne hi]
theorem k_s2 (h : mH) (b : Nat) (x y : va_E) : (h.set b x).set b y = h.set b y := List.set_set x
/-- a long array -/
abbrev k_la (n : Nat) (f : Nat → Int64) : va_E := .inl (1, n, .inr (.inl f))
abbrev k_ia (n : Nat) (f : Nat → Int32) : va_E := .inl (0, n, .inl f)
abbrev k_ba (n : Nat) (f : Nat → Int32) : va_E := .inl (2, n, .inl f)
abbrev k_za (n : Nat) (f : Nat → Int32) : va_E := .inl (3, n, .inl f)
abbrev k_ra (t n : Nat) (f : Nat → Option Nat) : va_E := .inl (t, n, .inr (.inr (.inr (.inr f))))
/-- the first i places new -/
def k_upto {α : Type} (g f : Nat → α) (i : Nat) : Nat → α := fun j => if j < i then g j else f j
theorem k_upto_0 {α : Type} (g f : Nat → α) : k_upto g f 0 = f := by funext j; simp [k_upto]
theorem k_upto_L (g f : Nat → Int64) (i : Nat) : vp_updL (k_upto g f i) i (g i) = k_upto g f (i + 1) := by
  funext j
  unfold vp_updL k_upto
  by_cases h : j = i
  · subst h; simp
  · rw [if_neg h]
    by_cases h2 : j < i
    · rw [if_pos h2, if_pos (by omega)]
    · rw [if_neg h2, if_neg (by omega)]
theorem k_upto_I (g f : Nat → Int32) (i : Nat) : upd (k_upto g f i) i (g i) = k_upto g f (i + 1) := by
  funext j
  unfold upd k_upto
  by_cases h : j = i
  · subst h; simp
  · rw [if_neg h]
    by_cases h2 : j < i
    · rw [if_pos h2, if_pos (by omega)]
    · rw [if_neg h2, if_neg (by omega)]
theorem k_upto_ge {α : Type} (g f : Nat → α) {i j : Nat} (h : i ≤ j) : k_upto g f i j = f j := if_neg (by omega)
theorem k_upto_lt {α : Type} (g f : Nat → α) {i j : Nat} (h : j < i) : k_upto g f i j = g j := if_pos h
end
section
/-! USES: for each use the set of its squares -/
abbrev k_uses (b : Nat) : va_E := .inr (6, [.ref b])
def k_lift (f : Nat → Int64) (x : Int64) : Nat → Int64 := k_upto (fun i => f i &&& (x ^^^ (-1))) f 5
def k_put (f : Nat → Int64) (x : Int64) (u : Nat) : Nat → Int64 := vp_updL (k_lift f x) u (k_lift f x u ||| x)
/-- the first use whose set has the square -/
def k_uo (f : Nat → Int64) (s : Nat) : Nat → Nat → Int32
  | 0, _ => -nI 1
  | n + 1, i => if k_has (f i) s then nI i else k_uo f s n (i + 1)
def k_same (f g : Nat → Int64) : Nat → Int32
  | 0 => nI 0
  | n + 1 => k_same f g n + k_pc (f n &&& g n)
def k_like (f : Nat → Int64) (s : Nat) : Nat → Int32
  | 0 => nI 0
  | n + 1 => if k_has (f n) s then k_like f s n + k_pc (k_bes (k_only s) &&& f n) else k_like f s n
section
variable {l : Launch} {E : mE} {N : Nat} {xs : Nat → Int32} {d : Nat} {tg : Bool} {h : mH} {a b : Nat} {f : Nat → Int64}
theorem u_of {u : Nat} (hu : u < 5) (hU : h[a]? = some (k_uses b)) (hA : h[b]? = some (k_la 5 f)) : m_Dt l (m_EX E N xs) E mM_X7_of d 0 0 [.ref a, .int (nI u)] h tg (some (.long (f u))) h tg := by
  have hM := mM_X7_of_ok
  refine m_Sp_of (by decide) (Nat.le_of_ble_eq_true rfl) ?_
  refine m_J_run hM 1 rfl ⟨trivial, trivial⟩ ?_
  refine m_J_getf hM rfl rfl (hU) (rfl) ?_
  refine m_J_run hM 1 rfl ⟨trivial, trivial⟩ ?_
  refine m_laldN hM rfl (hA) (by omega) (by omega) ?_
  exact m_lret hM rfl rfl (Nat.le_of_ble_eq_true rfl) (Nat.le_of_ble_eq_true rfl) (rfl) (rfl)
theorem u_useOf {s : Nat} (hU : h[a]? = some (k_uses b)) (hA : h[b]? = some (k_la 5 f)) : m_Dt l (m_EX E N xs) E mM_X7_useOf (d + 2) 0 0 [.ref a, .int (nI s)] h tg (some (.int (k_uo f s 5 0))) h tg := by
  have hM := mM_X7_useOf_ok
  refine m_Sp_of (by decide) (Nat.le_of_ble_eq_true rfl) ?_
  refine m_J_run hM 2 rfl ⟨trivial, trivial, trivial⟩ ?_
  have loop : ∀ n i : Nat, i + n = 5 → m_J l (m_EX E N xs) E mM_X7_useOf (d + 2) 0 0 (m_K (some (.int (k_uo f s n i))) h tg) m_no tg 0 0 (2, [some (.ref a), some (.int (nI s)), some (.int (nI i))], [], h) := by
    intro n
    induction n with
    | zero =>
      intro i hi
      have e : i = 5 := by omega
      subst e
      refine m_J_run hM 3 rfl ⟨trivial, trivial, trivial, trivial⟩ ?_
      refine m_J_if (fun _ => ?_) (fun hc => absurd (by decide) hc)
      refine m_J_run hM 1 rfl ⟨trivial, trivial⟩ ?_
      exact m_iret hM rfl rfl rfl (Nat.le_of_ble_eq_true rfl) (Nat.le_of_ble_eq_true rfl) (rfl) (rfl)
    | succ n ih =>
      intro i hi
      refine m_J_run hM 3 rfl ⟨trivial, trivial, trivial, trivial⟩ ?_
      refine m_J_if (fun hc => absurd hc (nI_ge (by omega) (by omega))) (fun _ => ?_)
      refine m_J_run hM 1 rfl ⟨trivial, trivial⟩ ?_
      refine m_J_getf hM rfl rfl (hU) (rfl) ?_
      refine m_J_run hM 1 rfl ⟨trivial, trivial⟩ ?_
      refine m_laldN hM rfl (hA) (by omega) (by omega) ?_
      refine m_J_run hM 1 rfl ⟨trivial, trivial⟩ ?_
      refine m_callS (as := [.long (f i), .int (nI s)]) (rest := []) (m_EX_warm E N xs) hM rfl kw_X7_19 rfl (s_has (f i) s) rfl (Nat.le_of_ble_eq_true rfl) (Nat.le_of_ble_eq_true rfl) (Nat.le_of_ble_eq_true rfl) (fun ht => ⟨ht, Nat.le_refl _⟩) ?_
      refine m_J_run hM 1 rfl ⟨trivial, trivial⟩ ?_
      refine m_J_if (fun hc => ?_) (fun hc => ?_)
      · have hc2 : ¬ k_has (f i) s = true := by intro q; rw [q] at hc; revert hc; decide
        rw [k_uo, if_neg hc2]
        refine m_J_run hM 2 rfl ⟨trivial, trivial, trivial⟩ ?_
        refine m_eqS (ih (i + 1) (by omega)) ?_
        rw [k_succ i]
        rfl
      · have hc2 : k_has (f i) s = true := by cases q : k_has (f i) s with
          | true => rfl
          | false => rw [q] at hc; exact absurd rfl hc
        rw [k_uo, if_pos hc2]
        refine m_J_run hM 1 rfl ⟨trivial, trivial⟩ ?_
        exact m_iret hM rfl rfl rfl (Nat.le_of_ble_eq_true rfl) (Nat.le_of_ble_eq_true rfl) (rfl) (rfl)
  exact loop 5 0 rfl
theorem u_lift {x : Int64} (hU : h[a]? = some (k_uses b)) (hA : h[b]? = some (k_la 5 f)) : m_Dt l (m_EX E N xs) E mM_X7_lift d 0 0 [.ref a, .long x] h tg none (h.set b (k_la 5 (k_lift f x))) tg := by
  have hM := mM_X7_lift_ok
  refine m_Sp_of (by decide) (Nat.le_of_ble_eq_true rfl) ?_
  refine m_J_run hM 2 rfl ⟨trivial, trivial, trivial⟩ ?_
  have hab := k_ne hU hA
  have loop : ∀ n i : Nat, i + n = 5 → m_J l (m_EX E N xs) E mM_X7_lift d 0 0 (m_K none (h.set b (k_la 5 (k_lift f x))) tg) m_no tg 0 0 (2, [some (.ref a), some (.long x), none, some (.int (nI i))], [], h.set b (k_la 5 (k_upto (fun i => f i &&& (x ^^^ (-1))) f i))) := by
    intro n
    induction n with
    | zero =>
      intro i hi
      have e : i = 5 := by omega
      subst e
      refine m_J_run hM 3 rfl ⟨trivial, trivial, trivial, trivial⟩ ?_
      refine m_J_if (fun _ => ?_) (fun hc => absurd (by decide) hc)
      exact m_vret hM rfl rfl (Nat.le_of_ble_eq_true rfl) (Nat.le_of_ble_eq_true rfl) (rfl)
    | succ n ih =>
      intro i hi
      refine m_J_run hM 3 rfl ⟨trivial, trivial, trivial, trivial⟩ ?_
      refine m_J_if (fun hc => absurd hc (nI_ge (by omega) (by omega))) (fun _ => ?_)
      refine m_J_run hM 1 rfl ⟨trivial, trivial⟩ ?_
      refine m_J_getf hM rfl rfl (k_sn hab hU) (rfl) ?_
      refine m_J_run hM 2 rfl ⟨trivial, trivial, trivial⟩ ?_
      refine m_laldN hM rfl (k_ss hA) (by omega) (by omega) ?_
      rw [k_upto_ge _ _ (Nat.le_refl i)]
      refine m_J_run hM 4 rfl ⟨trivial, trivial, trivial, trivial, trivial⟩ ?_
      refine m_lastN hM rfl (k_ss hA) (by omega) (by omega) ?_
      rw [k_s2]
      refine m_J_run hM 2 rfl ⟨trivial, trivial, trivial⟩ ?_
      refine m_eqS (ih (i + 1) (by omega)) ?_
      rw [k_succ i, ← k_upto_L]
      rfl
  have h0 := loop 5 0 rfl
  rw [k_upto_0, k_s0 hA] at h0
  exact h0
theorem u_put {x : Int64} {u : Nat} (hu : u < 5) (hU : h[a]? = some (k_uses b)) (hA : h[b]? = some (k_la 5 f)) : m_Dt l (m_EX E N xs) E mM_X7_put (d + 1) 0 0 [.ref a, .long x, .int (nI u)] h tg (some (.int (k_pc (x &&& (f u ^^^ (-1)))))) (h.set b (k_la 5 (k_put f x u))) tg := by
  have hM := mM_X7_put_ok
  refine m_Sp_of (by decide) (Nat.le_of_ble_eq_true rfl) ?_
  have hab := k_ne hU hA
  refine m_J_run hM 2 rfl ⟨trivial, trivial, trivial⟩ ?_
  refine m_J_getf hM rfl rfl (hU) (rfl) ?_
  refine m_J_run hM 1 rfl ⟨trivial, trivial⟩ ?_
  refine m_laldN hM rfl (hA) (by omega) (by omega) ?_
  refine m_J_run hM 3 rfl ⟨trivial, trivial, trivial, trivial⟩ ?_
  refine m_callS (as := [.long (x &&& (f u ^^^ (-1)))]) (rest := []) (m_EX_warm E N xs) hM rfl kw_X7_25 rfl (s_pc _) rfl (Nat.le_of_ble_eq_true rfl) (Nat.le_of_ble_eq_true rfl) (Nat.le_of_ble_eq_true rfl) (fun ht => ⟨ht, Nat.le_refl _⟩) ?_
  refine m_J_run hM 3 rfl ⟨trivial, trivial, trivial, trivial⟩ ?_
  refine m_callV (as := [.long x]) (rest := []) (m_EX_warm E N xs) hM rfl kw_X7_31 rfl rfl (hU) ⟨_, rfl, rfl⟩ (u_lift hU hA) rfl (Nat.le_of_ble_eq_true rfl) (Nat.le_of_ble_eq_true rfl) (Nat.le_of_ble_eq_true rfl) (fun ht => ⟨ht, by simp⟩) ?_
  refine m_J_run hM 1 rfl ⟨trivial, trivial⟩ ?_
  refine m_J_getf hM rfl rfl (k_sn hab hU) (rfl) ?_
  refine m_J_run hM 2 rfl ⟨trivial, trivial, trivial⟩ ?_
  refine m_laldN hM rfl (k_ss hA) (by omega) (by omega) ?_
  refine m_J_run hM 2 rfl ⟨trivial, trivial, trivial⟩ ?_
  refine m_lastN hM rfl (k_ss hA) (by omega) (by omega) ?_
  rw [k_s2]
  refine m_J_run hM 1 rfl ⟨trivial, trivial⟩ ?_
  exact m_iret hM rfl rfl rfl (Nat.le_of_ble_eq_true rfl) (Nat.le_of_ble_eq_true rfl) (rfl) (rfl)
theorem u_become {a' b' : Nat} {g : Nat → Int64} (hU : h[a]? = some (k_uses b)) (hA : h[b]? = some (k_la 5 f)) (hU' : h[a']? = some (k_uses b')) (hA' : h[b']? = some (k_la 5 g)) (hbb : b' ≠ b) : m_Dt l (m_EX E N xs) E mM_X7_become d 0 0 [.ref a, .ref a'] h tg none (h.set b (k_la 5 (k_upto g f 5))) tg := by
  have hM := mM_X7_become_ok
  refine m_Sp_of (by decide) (Nat.le_of_ble_eq_true rfl) ?_
  refine m_J_run hM 2 rfl ⟨trivial, trivial, trivial⟩ ?_
  have hab := k_ne hU hA
  have hab' := k_ne hU' hA
  have loop : ∀ n i : Nat, i + n = 5 → m_J l (m_EX E N xs) E mM_X7_become d 0 0 (m_K none (h.set b (k_la 5 (k_upto g f 5))) tg) m_no tg 0 0 (2, [some (.ref a), some (.ref a'), some (.int (nI i))], [], h.set b (k_la 5 (k_upto g f i))) := by
    intro n
    induction n with
    | zero =>
      intro i hi
      have e : i = 5 := by omega
      subst e
      refine m_J_run hM 3 rfl ⟨trivial, trivial, trivial, trivial⟩ ?_
      refine m_J_if (fun _ => ?_) (fun hc => absurd (by decide) hc)
      exact m_vret hM rfl rfl (Nat.le_of_ble_eq_true rfl) (Nat.le_of_ble_eq_true rfl) (rfl)
    | succ n ih =>
      intro i hi
      refine m_J_run hM 3 rfl ⟨trivial, trivial, trivial, trivial⟩ ?_
      refine m_J_if (fun hc => absurd hc (nI_ge (by omega) (by omega))) (fun _ => ?_)
      refine m_J_run hM 1 rfl ⟨trivial, trivial⟩ ?_
      refine m_J_getf hM rfl rfl (k_sn hab hU) (rfl) ?_
      refine m_J_run hM 2 rfl ⟨trivial, trivial, trivial⟩ ?_
      refine m_J_getf hM rfl rfl (k_sn hab' hU') (rfl) ?_
      refine m_J_run hM 1 rfl ⟨trivial, trivial⟩ ?_
      refine m_laldN hM rfl (k_sn hbb hA') (by omega) (by omega) ?_
      refine m_lastN hM rfl (k_ss hA) (by omega) (by omega) ?_
      rw [k_s2]
      refine m_J_run hM 2 rfl ⟨trivial, trivial, trivial⟩ ?_
      refine m_eqS (ih (i + 1) (by omega)) ?_
      rw [k_succ i, ← k_upto_L]
      rfl
  have h0 := loop 5 0 rfl
  rw [k_upto_0, k_s0 hA] at h0
  exact h0
theorem u_diff {a' b' : Nat} {g : Nat → Int64} (hU : h[a]? = some (k_uses b)) (hA : h[b]? = some (k_la 5 f)) (hU' : h[a']? = some (k_uses b')) (hA' : h[b']? = some (k_la 5 g)) : m_Dt l (m_EX E N xs) E mM_X7_differencesFrom (d + 1) 0 0 [.ref a, .ref a'] h tg (some (.int (nI 60 - k_same f g 5))) h tg := by
  have hM := mM_X7_differencesFrom_ok
  refine m_Sp_of (by decide) (Nat.le_of_ble_eq_true rfl) ?_
  refine m_J_run hM 4 rfl ⟨trivial, trivial, trivial, trivial, trivial⟩ ?_
  have loop : ∀ n i : Nat, i + n = 5 → m_J l (m_EX E N xs) E mM_X7_differencesFrom (d + 1) 0 0 (m_K (some (.int (nI 60 - k_same f g 5))) h tg) m_no tg 0 0 (4, [some (.ref a), some (.ref a'), some (.int (k_same f g i)), some (.int (nI i))], [], h) := by
    intro n
    induction n with
    | zero =>
      intro i hi
      have e : i = 5 := by omega
      subst e
      refine m_J_run hM 3 rfl ⟨trivial, trivial, trivial, trivial⟩ ?_
      refine m_J_if (fun _ => ?_) (fun hc => absurd (by decide) hc)
      refine m_J_run hM 3 rfl ⟨trivial, trivial, trivial, trivial⟩ ?_
      exact m_iret hM rfl rfl rfl (Nat.le_of_ble_eq_true rfl) (Nat.le_of_ble_eq_true rfl) (rfl) (rfl)
    | succ n ih =>
      intro i hi
      refine m_J_run hM 3 rfl ⟨trivial, trivial, trivial, trivial⟩ ?_
      refine m_J_if (fun hc => absurd hc (nI_ge (by omega) (by omega))) (fun _ => ?_)
      refine m_J_run hM 2 rfl ⟨trivial, trivial, trivial⟩ ?_
      refine m_J_getf hM rfl rfl (hU) (rfl) ?_
      refine m_J_run hM 1 rfl ⟨trivial, trivial⟩ ?_
      refine m_laldN hM rfl (hA) (by omega) (by omega) ?_
      refine m_J_run hM 1 rfl ⟨trivial, trivial⟩ ?_
      refine m_J_getf hM rfl rfl (hU') (rfl) ?_
      refine m_J_run hM 1 rfl ⟨trivial, trivial⟩ ?_
      refine m_laldN hM rfl (hA') (by omega) (by omega) ?_
      refine m_J_run hM 1 rfl ⟨trivial, trivial⟩ ?_
      refine m_callS (as := [.long (f i &&& g i)]) (rest := [.int (k_same f g i)]) (m_EX_warm E N xs) hM rfl kw_X7_25 rfl (s_pc _) rfl (Nat.le_of_ble_eq_true rfl) (Nat.le_of_ble_eq_true rfl) (Nat.le_of_ble_eq_true rfl) (fun ht => ⟨ht, Nat.le_refl _⟩) ?_
      refine m_J_run hM 4 rfl ⟨trivial, trivial, trivial, trivial, trivial⟩ ?_
      refine m_eqS (ih (i + 1) (by omega)) ?_
      rw [k_succ i]
      rfl
  exact loop 5 0 rfl
theorem u_like {s : Nat} (hU : h[a]? = some (k_uses b)) (hA : h[b]? = some (k_la 5 f)) : m_Dt l (m_EX E N xs) E mM_X7_likeBeside (d + 2) 0 0 [.ref a, .int (nI s)] h tg (some (.int (k_like f s 5))) h tg := by
  have hM := mM_X7_likeBeside_ok
  refine m_Sp_of (by decide) (Nat.le_of_ble_eq_true rfl) ?_
  refine m_J_run hM 1 rfl ⟨trivial, trivial⟩ ?_
  refine m_callS (as := [.int (nI s)]) (rest := []) (m_EX_warm E N xs) hM rfl kw_X7_35 rfl (s_only s) rfl (Nat.le_of_ble_eq_true rfl) (Nat.le_of_ble_eq_true rfl) (Nat.le_of_ble_eq_true rfl) (fun ht => ⟨ht, Nat.le_refl _⟩) ?_
  refine m_callS (as := [.long (k_only s)]) (rest := []) (m_EX_warm E N xs) hM rfl kw_X7_39 rfl (s_bes _) rfl (Nat.le_of_ble_eq_true rfl) (Nat.le_of_ble_eq_true rfl) (Nat.le_of_ble_eq_true rfl) (fun ht => ⟨ht, Nat.le_refl _⟩) ?_
  refine m_J_run hM 5 rfl ⟨trivial, trivial, trivial, trivial, trivial, trivial⟩ ?_
  have loop : ∀ n i : Nat, i + n = 5 → m_J l (m_EX E N xs) E mM_X7_likeBeside (d + 2) 0 0 (m_K (some (.int (k_like f s 5))) h tg) m_no tg 0 0 (14, [some (.ref a), some (.int (nI s)), some (.long (k_bes (k_only s))), none, some (.int (k_like f s i)), some (.int (nI i))], [], h) := by
    intro n
    induction n with
    | zero =>
      intro i hi
      have e : i = 5 := by omega
      subst e
      refine m_J_run hM 3 rfl ⟨trivial, trivial, trivial, trivial⟩ ?_
      refine m_J_if (fun _ => ?_) (fun hc => absurd (by decide) hc)
      refine m_J_run hM 1 rfl ⟨trivial, trivial⟩ ?_
      exact m_iret hM rfl rfl rfl (Nat.le_of_ble_eq_true rfl) (Nat.le_of_ble_eq_true rfl) (rfl) (rfl)
    | succ n ih =>
      intro i hi
      refine m_J_run hM 3 rfl ⟨trivial, trivial, trivial, trivial⟩ ?_
      refine m_J_if (fun hc => absurd hc (nI_ge (by omega) (by omega))) (fun _ => ?_)
      refine m_J_run hM 1 rfl ⟨trivial, trivial⟩ ?_
      refine m_J_getf hM rfl rfl (hU) (rfl) ?_
      refine m_J_run hM 1 rfl ⟨trivial, trivial⟩ ?_
      refine m_laldN hM rfl (hA) (by omega) (by omega) ?_
      refine m_J_run hM 1 rfl ⟨trivial, trivial⟩ ?_
      refine m_callS (as := [.long (f i), .int (nI s)]) (rest := []) (m_EX_warm E N xs) hM rfl kw_X7_19 rfl (s_has (f i) s) rfl (Nat.le_of_ble_eq_true rfl) (Nat.le_of_ble_eq_true rfl) (Nat.le_of_ble_eq_true rfl) (fun ht => ⟨ht, Nat.le_refl _⟩) ?_
      refine m_J_run hM 1 rfl ⟨trivial, trivial⟩ ?_
      refine m_J_if (fun hc => ?_) (fun hc => ?_)
      · have hc2 : ¬ k_has (f i) s = true := by intro q; rw [q] at hc; revert hc; decide
        refine m_J_run hM 2 rfl ⟨trivial, trivial, trivial⟩ ?_
        refine m_eqS (ih (i + 1) (by omega)) ?_
        rw [k_succ i, k_like, if_neg hc2]
        rfl
      · have hc2 : k_has (f i) s = true := by cases q : k_has (f i) s with
          | true => rfl
          | false => rw [q] at hc; exact absurd rfl hc
        refine m_J_run hM 3 rfl ⟨trivial, trivial, trivial, trivial⟩ ?_
        refine m_J_getf hM rfl rfl (hU) (rfl) ?_
        refine m_J_run hM 1 rfl ⟨trivial, trivial⟩ ?_
        refine m_laldN hM rfl (hA) (by omega) (by omega) ?_
        refine m_J_run hM 1 rfl ⟨trivial, trivial⟩ ?_
        refine m_callS (as := [.long (k_bes (k_only s) &&& f i)]) (rest := [.int (k_like f s i)]) (m_EX_warm E N xs) hM rfl kw_X7_25 rfl (s_pc _) rfl (Nat.le_of_ble_eq_true rfl) (Nat.le_of_ble_eq_true rfl) (Nat.le_of_ble_eq_true rfl) (fun ht => ⟨ht, Nat.le_refl _⟩) ?_
        refine m_J_run hM 4 rfl ⟨trivial, trivial, trivial, trivial, trivial⟩ ?_
        refine m_eqS (ih (i + 1) (by omega)) ?_
        rw [k_succ i, k_like, if_pos hc2]
        rfl
  exact loop 5 0 rfl
end
end
section
/-! LAND: uses, soils, which squares are near -/
theorem k_eqN {a b : Nat} (ha : a < 100000) (hb : b < 100000) : nI a = nI b ↔ a = b := nI_eq (by omega) (by omega)
theorem k_z1 {b : Bool} (h : ¬ k_z b = 0) : b = true := by
  cases b with
  | true => rfl
  | false => exact absurd (by decide) h
theorem k_z0 {b : Bool} (h : k_z b = 0) : b = false := by
  cases b with
  | false => rfl
  | true => exact absurd h (by decide)
def k_arow (i : Nat) : Nat → Int64 := k_upto (fun s => k_ar s i) (fun _ => Int64.ofNat 0) 60
def k_arows (w : Nat → Nat) : Nat → Option Nat := fun i => if i < 6 then some (w i) else none
/-- a land at a, its uses' cell at u and their sets at b, its soils at s, the rows of nearness at r and w -/
def k_LD (h : mH) (a u b s r : Nat) (w : Nat → Nat) (f : Nat → Int64) (so : Nat → Int32) : Prop :=
  h[a]? = some (.inr (1, [.ref u, .ref s, .ref r])) ∧ h[u]? = some (k_uses b) ∧ h[b]? = some (k_la 5 f) ∧ h[s]? = some (k_ia 60 so) ∧ h[r]? = some (k_ra 6 6 (k_arows w)) ∧ ∀ i, i < 6 → h[w i]? = some (k_la 60 (k_arow i))
def k_soil (so : Nat → Int32) (x : Int64) (v : Int32) : Nat → Nat → Int32
  | 0 => so
  | n + 1 => if k_has x n then upd (k_soil so x v n) n v else k_soil so x v n
def k_cp (f : Nat → Int64) (o1 o2 st : Nat) : Nat → Int32
  | 0 => nI 0
  | n + 1 => if k_has (f o1) n then k_cp f o1 o2 st n + k_pc (k_ar n st &&& f o2) else k_cp f o1 o2 st n
def k_cs (f : Nat → Int64) (so : Nat → Int32) (u : Nat) (lo : Int32) : Nat → Int32
  | 0 => nI 0
  | n + 1 => if k_has (f u) n ∧ ¬ so n < lo then k_cs f so u lo n + nI 1 else k_cs f so u lo n
section
variable {l : Launch} {E : mE} {N : Nat} {xs : Nat → Int32} {d : Nat} {tg : Bool} {h : mH} {a u b s r : Nat} {w : Nat → Nat} {f : Nat → Int64} {so : Nat → Int32}
theorem l_around {q st v : Nat} (hq : q < 60) (hs : st < 6) (hv : v < 5) (hL : k_LD h a u b s r w f so) : m_Dt l (m_EX E N xs) E mM_X1_countAround (d + 1) 0 0 [.ref a, .int (nI q), .int (nI st), .int (nI v)] h tg (some (.int (k_pc (k_ar q st &&& f v)))) h tg := by
  have hM := mM_X1_countAround_ok
  obtain ⟨h1, h2, h3, h4, h5, h6⟩ := hL
  refine m_Sp_of (by decide) (Nat.le_of_ble_eq_true rfl) ?_
  refine m_J_run hM 1 rfl ⟨trivial, trivial⟩ ?_
  refine m_J_getf hM rfl rfl (h1) (rfl) ?_
  refine m_J_run hM 1 rfl ⟨trivial, trivial⟩ ?_
  refine m_aaldN hM rfl (h5) rfl (if_pos hs) (by omega) (by omega) ?_
  refine m_J_run hM 1 rfl ⟨trivial, trivial⟩ ?_
  refine m_laldN hM rfl (h6 st hs) (by omega) (by omega) ?_
  rw [show k_arow st q = k_ar q st from k_upto_lt _ _ hq]
  refine m_J_run hM 1 rfl ⟨trivial, trivial⟩ ?_
  refine m_J_getf hM rfl rfl (h1) (rfl) ?_
  refine m_J_getf hM rfl rfl (h2) (rfl) ?_
  refine m_J_run hM 1 rfl ⟨trivial, trivial⟩ ?_
  refine m_laldN hM rfl (h3) (by omega) (by omega) ?_
  refine m_J_run hM 1 rfl ⟨trivial, trivial⟩ ?_
  refine m_callS (as := [.long (k_ar q st &&& f v)]) (rest := []) (m_EX_warm E N xs) hM rfl kw_X1_40 rfl (s_pc _) rfl (Nat.le_of_ble_eq_true rfl) (Nat.le_of_ble_eq_true rfl) (Nat.le_of_ble_eq_true rfl) (fun ht => ⟨ht, Nat.le_refl _⟩) ?_
  exact m_iret hM rfl rfl rfl (Nat.le_of_ble_eq_true rfl) (Nat.le_of_ble_eq_true rfl) (rfl) (rfl)
theorem l_pairs {o1 o2 st : Nat} (hs : st < 6) (ho1 : o1 < 5) (ho2 : o2 < 5) (hL : k_LD h a u b s r w f so) : m_Dt l (m_EX E N xs) E mM_X1_countPairs (d + 2) 0 0 [.ref a, .int (nI o1), .int (nI o2), .int (nI st)] h tg (some (.int (k_cp f o1 o2 st 60))) h tg := by
  have hM := mM_X1_countPairs_ok
  obtain ⟨h1, h2, h3, h4, h5, h6⟩ := id hL
  refine m_Sp_of (by decide) (Nat.le_of_ble_eq_true rfl) ?_
  refine m_J_run hM 1 rfl ⟨trivial, trivial⟩ ?_
  refine m_J_getf hM rfl rfl (h1) (rfl) ?_
  refine m_J_run hM 1 rfl ⟨trivial, trivial⟩ ?_
  refine m_callV (as := [.int (nI o1)]) (rest := []) (m_EX_warm E N xs) hM rfl kw_X1_46 rfl rfl (h2) ⟨_, rfl, rfl⟩ (u_of ho1 h2 h3) rfl (Nat.le_of_ble_eq_true rfl) (Nat.le_of_ble_eq_true rfl) (Nat.le_of_ble_eq_true rfl) (fun ht => ⟨ht, by simp⟩) ?_
  refine m_J_run hM 5 rfl ⟨trivial, trivial, trivial, trivial, trivial, trivial⟩ ?_
  have loop : ∀ n i : Nat, i + n = 60 → m_J l (m_EX E N xs) E mM_X1_countPairs (d + 2) 0 0 (m_K (some (.int (k_cp f o1 o2 st 60))) h tg) m_no tg 0 0 (16, [some (.ref a), some (.int (nI o1)), some (.int (nI o2)), some (.int (nI st)), some (.long (f o1)), none, some (.int (k_cp f o1 o2 st i)), some (.int (nI i))], [], h) := by
    intro n
    induction n with
    | zero =>
      intro i hi
      have e : i = 60 := by omega
      subst e
      refine m_J_run hM 3 rfl ⟨trivial, trivial, trivial, trivial⟩ ?_
      refine m_J_if (fun _ => ?_) (fun hc => absurd (by decide) hc)
      refine m_J_run hM 1 rfl ⟨trivial, trivial⟩ ?_
      exact m_iret hM rfl rfl rfl (Nat.le_of_ble_eq_true rfl) (Nat.le_of_ble_eq_true rfl) (rfl) (rfl)
    | succ n ih =>
      intro i hi
      refine m_J_run hM 3 rfl ⟨trivial, trivial, trivial, trivial⟩ ?_
      refine m_J_if (fun hc => absurd hc (nI_ge (by omega) (by omega))) (fun _ => ?_)
      refine m_J_run hM 2 rfl ⟨trivial, trivial, trivial⟩ ?_
      refine m_callS (as := [.long (f o1), .int (nI i)]) (rest := []) (m_EX_warm E N xs) hM rfl kw_X1_32 rfl (s_has _ i) rfl (Nat.le_of_ble_eq_true rfl) (Nat.le_of_ble_eq_true rfl) (Nat.le_of_ble_eq_true rfl) (fun ht => ⟨ht, Nat.le_refl _⟩) ?_
      refine m_J_run hM 1 rfl ⟨trivial, trivial⟩ ?_
      refine m_J_if (fun hc => ?_) (fun hc => ?_)
      · have hc2 := k_z0 hc
        refine m_J_run hM 2 rfl ⟨trivial, trivial, trivial⟩ ?_
        refine m_eqS (ih (i + 1) (by omega)) ?_
        rw [k_succ i, k_cp, if_neg (by rw [hc2]; decide)]
        rfl
      · have hc2 := k_z1 hc
        refine m_J_run hM 5 rfl ⟨trivial, trivial, trivial, trivial, trivial, trivial⟩ ?_
        refine m_callV (as := [.int (nI i), .int (nI st), .int (nI o2)]) (rest := [.int (k_cp f o1 o2 st i)]) (m_EX_warm E N xs) hM rfl kw_X1_50 rfl rfl (h1) ⟨_, rfl, rfl⟩ (l_around (by omega) hs ho2 hL) rfl (Nat.le_of_ble_eq_true rfl) (Nat.le_of_ble_eq_true rfl) (Nat.le_of_ble_eq_true rfl) (fun ht => ⟨ht, by simp⟩) ?_
        refine m_J_run hM 4 rfl ⟨trivial, trivial, trivial, trivial, trivial⟩ ?_
        refine m_eqS (ih (i + 1) (by omega)) ?_
        rw [k_succ i, k_cp, if_pos hc2]
        rfl
  exact loop 60 0 rfl
theorem l_onSoil {v : Nat} {lo : Int32} (hv : v < 5) (hL : k_LD h a u b s r w f so) : m_Dt l (m_EX E N xs) E mM_X1_countOnSoil (d + 2) 0 0 [.ref a, .int (nI v), .int lo] h tg (some (.int (k_cs f so v lo 60))) h tg := by
  have hM := mM_X1_countOnSoil_ok
  obtain ⟨h1, h2, h3, h4, h5, h6⟩ := id hL
  refine m_Sp_of (by decide) (Nat.le_of_ble_eq_true rfl) ?_
  refine m_J_run hM 1 rfl ⟨trivial, trivial⟩ ?_
  refine m_J_getf hM rfl rfl (h1) (rfl) ?_
  refine m_J_run hM 1 rfl ⟨trivial, trivial⟩ ?_
  refine m_callV (as := [.int (nI v)]) (rest := []) (m_EX_warm E N xs) hM rfl kw_X1_46 rfl rfl (h2) ⟨_, rfl, rfl⟩ (u_of hv h2 h3) rfl (Nat.le_of_ble_eq_true rfl) (Nat.le_of_ble_eq_true rfl) (Nat.le_of_ble_eq_true rfl) (fun ht => ⟨ht, by simp⟩) ?_
  refine m_J_run hM 5 rfl ⟨trivial, trivial, trivial, trivial, trivial, trivial⟩ ?_
  have loop : ∀ n i : Nat, i + n = 60 → m_J l (m_EX E N xs) E mM_X1_countOnSoil (d + 2) 0 0 (m_K (some (.int (k_cs f so v lo 60))) h tg) m_no tg 0 0 (15, [some (.ref a), some (.int (nI v)), some (.int lo), some (.long (f v)), none, some (.int (k_cs f so v lo i)), some (.int (nI i))], [], h) := by
    intro n
    induction n with
    | zero =>
      intro i hi
      have e : i = 60 := by omega
      subst e
      refine m_J_run hM 3 rfl ⟨trivial, trivial, trivial, trivial⟩ ?_
      refine m_J_if (fun _ => ?_) (fun hc => absurd (by decide) hc)
      refine m_J_run hM 1 rfl ⟨trivial, trivial⟩ ?_
      exact m_iret hM rfl rfl rfl (Nat.le_of_ble_eq_true rfl) (Nat.le_of_ble_eq_true rfl) (rfl) (rfl)
    | succ n ih =>
      intro i hi
      have e9 : k_cs f so v lo (i + 1) = if k_has (f v) i ∧ ¬ so i < lo then k_cs f so v lo i + nI 1 else k_cs f so v lo i := rfl
      refine m_J_run hM 3 rfl ⟨trivial, trivial, trivial, trivial⟩ ?_
      refine m_J_if (fun hc => absurd hc (nI_ge (by omega) (by omega))) (fun _ => ?_)
      refine m_J_run hM 2 rfl ⟨trivial, trivial, trivial⟩ ?_
      refine m_callS (as := [.long (f v), .int (nI i)]) (rest := []) (m_EX_warm E N xs) hM rfl kw_X1_32 rfl (s_has _ i) rfl (Nat.le_of_ble_eq_true rfl) (Nat.le_of_ble_eq_true rfl) (Nat.le_of_ble_eq_true rfl) (fun ht => ⟨ht, Nat.le_refl _⟩) ?_
      refine m_J_run hM 1 rfl ⟨trivial, trivial⟩ ?_
      refine m_J_if (fun hc => ?_) (fun hc => ?_)
      · have hc2 := k_z0 hc
        refine m_J_run hM 2 rfl ⟨trivial, trivial, trivial⟩ ?_
        refine m_eqS (ih (i + 1) (by omega)) ?_
        rw [k_succ i, e9, if_neg (by rw [hc2]; simp)]
        rfl
      · have hc2 := k_z1 hc
        refine m_J_run hM 1 rfl ⟨trivial, trivial⟩ ?_
        refine m_J_getf hM rfl rfl (h1) (rfl) ?_
        refine m_J_run hM 1 rfl ⟨trivial, trivial⟩ ?_
        refine m_ialdN hM rfl (h4) (by omega) (by omega) ?_
        refine m_J_run hM 2 rfl ⟨trivial, trivial, trivial⟩ ?_
        refine m_J_if (fun hc3 => ?_) (fun hc3 => ?_)
        · refine m_J_run hM 2 rfl ⟨trivial, trivial, trivial⟩ ?_
          refine m_eqS (ih (i + 1) (by omega)) ?_
          rw [k_succ i, e9, if_neg (fun q => q.2 hc3)]
          rfl
        · refine m_J_run hM 3 rfl ⟨trivial, trivial, trivial, trivial⟩ ?_
          refine m_eqS (ih (i + 1) (by omega)) ?_
          rw [k_succ i, e9, if_pos ⟨hc2, hc3⟩]
          rfl
  exact loop 60 0 rfl
theorem l_putSoil {x : Int64} {v : Int32} (hL : k_LD h a u b s r w f so) : m_Dt l (m_EX E N xs) E mM_X1_putSoil (d + 2) 0 0 [.ref a, .long x, .int v] h tg none (h.set s (k_ia 60 (k_soil so x v 60))) tg := by
  have hM := mM_X1_putSoil_ok
  obtain ⟨h1, h2, h3, h4, h5, h6⟩ := id hL
  have has := k_ne h1 h4
  refine m_Sp_of (by decide) (Nat.le_of_ble_eq_true rfl) ?_
  refine m_J_run hM 2 rfl ⟨trivial, trivial, trivial⟩ ?_
  have loop : ∀ n i : Nat, i + n = 60 → m_J l (m_EX E N xs) E mM_X1_putSoil (d + 2) 0 0 (m_K none (h.set s (k_ia 60 (k_soil so x v 60))) tg) m_no tg 0 0 (3, [some (.ref a), some (.long x), none, some (.int v), some (.int (nI i))], [], h.set s (k_ia 60 (k_soil so x v i))) := by
    intro n
    induction n with
    | zero =>
      intro i hi
      have e : i = 60 := by omega
      subst e
      refine m_J_run hM 3 rfl ⟨trivial, trivial, trivial, trivial⟩ ?_
      refine m_J_if (fun _ => ?_) (fun hc => absurd (by decide) hc)
      exact m_vret hM rfl rfl (Nat.le_of_ble_eq_true rfl) (Nat.le_of_ble_eq_true rfl) (rfl)
    | succ n ih =>
      intro i hi
      have e9 : k_soil so x v (i + 1) = if k_has x i then upd (k_soil so x v i) i v else k_soil so x v i := rfl
      refine m_J_run hM 3 rfl ⟨trivial, trivial, trivial, trivial⟩ ?_
      refine m_J_if (fun hc => absurd hc (nI_ge (by omega) (by omega))) (fun _ => ?_)
      refine m_J_run hM 2 rfl ⟨trivial, trivial, trivial⟩ ?_
      refine m_callS (as := [.long x, .int (nI i)]) (rest := []) (m_EX_warm E N xs) hM rfl kw_X1_32 rfl (s_has _ i) rfl (Nat.le_of_ble_eq_true rfl) (Nat.le_of_ble_eq_true rfl) (Nat.le_of_ble_eq_true rfl) (fun ht => ⟨ht, Nat.le_refl _⟩) ?_
      refine m_J_run hM 1 rfl ⟨trivial, trivial⟩ ?_
      refine m_J_if (fun hc => ?_) (fun hc => ?_)
      · have hc2 := k_z0 hc
        refine m_J_run hM 2 rfl ⟨trivial, trivial, trivial⟩ ?_
        refine m_eqS (ih (i + 1) (by omega)) ?_
        rw [k_succ i, e9, if_neg (by rw [hc2]; decide)]
        rfl
      · have hc2 := k_z1 hc
        refine m_J_run hM 1 rfl ⟨trivial, trivial⟩ ?_
        refine m_J_getf hM rfl rfl (k_sn has h1) (rfl) ?_
        refine m_J_run hM 2 rfl ⟨trivial, trivial, trivial⟩ ?_
        refine m_iastN hM rfl (k_ss h4) (by omega) (by omega) ?_
        rw [k_s2]
        refine m_J_run hM 2 rfl ⟨trivial, trivial, trivial⟩ ?_
        refine m_eqS (ih (i + 1) (by omega)) ?_
        rw [k_succ i, e9, if_pos hc2]
        rfl
  have h0 := loop 60 0 rfl
  rw [show k_soil so x v 0 = so from rfl, k_s0 h4] at h0
  exact h0
end
end
section
/-! LINE: one line of the book -/
/-- kind, use, other use, grown use, steps, least soil, number -/
abbrev kL : Type := Nat × Nat × Nat × Nat × Nat × Nat × Int32
abbrev k_ln (q : kL) : va_E := .inr (2, [.int (nI q.1), .int (nI q.2.1), .int (nI q.2.2.1), .int (nI q.2.2.2.1), .int (nI q.2.2.2.2.1), .int (nI q.2.2.2.2.2.1), .int q.2.2.2.2.2.2])
def k_lok (q : kL) : Prop := q.1 ≤ 6 ∧ q.2.1 < 5 ∧ q.2.2.1 < 5 ∧ q.2.2.2.1 < 5 ∧ q.2.2.2.2.1 ≤ 5 ∧ q.2.2.2.2.2.1 ≤ 9 ∧ (q.1 = 2 → 1 ≤ q.2.2.2.2.1)
def k_isl (q : kL) : Bool := decide (2 ≤ q.1 ∧ q.1 ≤ 5)
def k_lw (q : kL) (f : Nat → Int64) (so : Nat → Int32) : Int32 :=
  if q.1 = 0 then q.2.2.2.2.2.2 * k_cp f q.2.1 q.2.2.1 q.2.2.2.2.1 60 else if q.1 = 1 then q.2.2.2.2.2.2 * k_cs f so q.2.1 (nI q.2.2.2.2.2.1) 60 else nI 0
/-- new pairs by a square with these near it that gets use v -/
def k_np (q : kL) (x : Int64) (f : Nat → Int64) (v : Nat) : Int32 :=
  let p := if v = q.2.1 then nI 0 + k_pc (x &&& f q.2.2.1) else nI 0
  if v = q.2.2.1 then p + k_pc (x &&& f q.2.1) else p
def k_lwp (q : kL) (f : Nat → Int64) (so : Nat → Int32) (sq v : Nat) : Int32 :=
  if q.1 = 0 then q.2.2.2.2.2.2 * k_np q (k_ar sq q.2.2.2.2.1) f v else if q.1 = 1 ∧ v = q.2.1 ∧ ¬ so sq < nI q.2.2.2.2.2.1 then q.2.2.2.2.2.2 else nI 0
def k_bp (q : kL) (f : Nat → Int64) : Bool := decide (q.1 = 2 ∧ ¬ k_cp f q.2.1 q.2.2.1 (q.2.2.2.2.1 - 1) 60 ≤ 0)
def k_bpp (q : kL) (f : Nat → Int64) (sq v : Nat) : Bool := decide (q.1 = 2 ∧ ¬ k_np q (k_ar sq (q.2.2.2.2.1 - 1)) f v ≤ 0)
def k_bw (q : kL) (f : Nat → Int64) : Bool :=
  if q.1 = 3 then decide (¬ q.2.2.2.2.2.2 ≤ k_pc (f q.2.1)) else if q.1 = 4 then decide (¬ k_pc (f q.2.1) ≤ q.2.2.2.2.2.2) else if q.1 = 5 then !(k_jo (f q.2.1)) else false
def k_br (q : kL) (f : Nat → Int64) : Bool := if q.1 = 2 then k_bp q f else k_bw q f
def k_go (q : kL) (f : Nat → Int64) (sq : Nat) : Bool := decide (q.1 = 6 ∧ k_has (f q.2.1) sq = true ∧ ¬ k_pc (k_ar sq q.2.2.2.2.1 &&& f q.2.2.1) < q.2.2.2.2.2.2)
section
variable {l : Launch} {E : mE} {N : Nat} {xs : Nat → Int32} {d : Nat} {tg : Bool} {h : mH} {a u b s r : Nat} {w : Nat → Nat} {f : Nat → Int64} {so : Nat → Int32} {c : Nat} {q : kL}
theorem i_isLaw (hk : q.1 ≤ 6) (hq : h[c]? = some (k_ln q)) : m_Dt l (m_EX E N xs) E mM_X2_isLaw d 0 0 [.ref c] h tg (some (.int (k_z (k_isl q)))) h tg := by
  have hM := mM_X2_isLaw_ok
  obtain ⟨k, q⟩ := q
  dsimp only at hk hq
  refine m_Sp_of (by decide) (Nat.le_of_ble_eq_true rfl) ?_
  refine m_J_run hM 1 rfl ⟨trivial, trivial⟩ ?_
  refine m_J_getf hM rfl rfl (hq) (rfl) ?_
  refine m_J_run hM 2 rfl ⟨trivial, trivial, trivial⟩ ?_
  refine m_J_if (fun hc => ?_) (fun hc2 => ?_)
  · have e : k = 2 := (k_eqN (by omega) (by omega)).mp hc
    subst e
    refine m_J_run hM 2 rfl ⟨trivial, trivial, trivial⟩ ?_
    exact m_iret hM rfl rfl (by decide) (Nat.le_of_ble_eq_true rfl) (Nat.le_of_ble_eq_true rfl) (by rfl) (rfl)
  · refine m_J_run hM 1 rfl ⟨trivial, trivial⟩ ?_
    refine m_J_getf hM rfl rfl (hq) (rfl) ?_
    refine m_J_run hM 2 rfl ⟨trivial, trivial, trivial⟩ ?_
    refine m_J_if (fun hc => ?_) (fun hc3 => ?_)
    · have e : k = 3 := (k_eqN (by omega) (by omega)).mp hc
      subst e
      refine m_J_run hM 2 rfl ⟨trivial, trivial, trivial⟩ ?_
      exact m_iret hM rfl rfl (by decide) (Nat.le_of_ble_eq_true rfl) (Nat.le_of_ble_eq_true rfl) (by rfl) (rfl)
    · refine m_J_run hM 1 rfl ⟨trivial, trivial⟩ ?_
      refine m_J_getf hM rfl rfl (hq) (rfl) ?_
      refine m_J_run hM 2 rfl ⟨trivial, trivial, trivial⟩ ?_
      refine m_J_if (fun hc => ?_) (fun hc4 => ?_)
      · have e : k = 4 := (k_eqN (by omega) (by omega)).mp hc
        subst e
        refine m_J_run hM 2 rfl ⟨trivial, trivial, trivial⟩ ?_
        exact m_iret hM rfl rfl (by decide) (Nat.le_of_ble_eq_true rfl) (Nat.le_of_ble_eq_true rfl) (by rfl) (rfl)
      · refine m_J_run hM 1 rfl ⟨trivial, trivial⟩ ?_
        refine m_J_getf hM rfl rfl (hq) (rfl) ?_
        refine m_J_run hM 2 rfl ⟨trivial, trivial, trivial⟩ ?_
        refine m_J_if (fun hc5 => ?_) (fun hc5 => ?_)
        · refine m_J_run hM 1 rfl ⟨trivial, trivial⟩ ?_
          exact m_iret hM rfl rfl (by decide) (Nat.le_of_ble_eq_true rfl) (Nat.le_of_ble_eq_true rfl) (by rw [k_eqN (by omega) (by omega)] at hc2 hc3 hc4 hc5; dsimp only at hc2 hc3 hc4 hc5; have e : k_isl (k, q) = false := decide_eq_false (by dsimp only; omega); rw [e]; rfl) (rfl)
        · have e : k = 5 := (k_eqN (by omega) (by omega)).mp (Classical.not_not.mp hc5)
          subst e
          refine m_J_run hM 2 rfl ⟨trivial, trivial, trivial⟩ ?_
          exact m_iret hM rfl rfl (by decide) (Nat.le_of_ble_eq_true rfl) (Nat.le_of_ble_eq_true rfl) (by rfl) (rfl)
theorem i_np {x : Int64} {v : Nat} (hok : k_lok q) (hv : v < 5) (hq : h[c]? = some (k_ln q)) (h2 : h[u]? = some (k_uses b)) (h3 : h[b]? = some (k_la 5 f)) : m_Dt l (m_EX E N xs) E mM_X2_countNewPairs (d + 1) 0 0 [.ref c, .long x, .ref u, .int (nI v)] h tg (some (.int (k_np q x f v))) h tg := by
  have hM := mM_X2_countNewPairs_ok
  obtain ⟨-, hu, ho, -, -, -, -⟩ := hok
  refine m_Sp_of (by decide) (Nat.le_of_ble_eq_true rfl) ?_
  have part2 : ∀ p0 : Int32, m_J l (m_EX E N xs) E mM_X2_countNewPairs (d + 1) 0 0 (m_K (some (.int (if v = q.2.2.1 then p0 + k_pc (x &&& f q.2.1) else p0))) h tg) m_no tg 0 0 (31, [some (.ref c), some (.long x), none, some (.ref u), some (.int (nI v)), some (.int p0)], [], h) := by
    intro p0
    refine m_J_run hM 2 rfl ⟨trivial, trivial, trivial⟩ ?_
    refine m_J_getf hM rfl rfl (hq) (rfl) ?_
    refine m_J_run hM 1 rfl ⟨trivial, trivial⟩ ?_
    refine m_J_if (fun hc => ?_) (fun hc => ?_)
    · have hc2 : ¬ v = q.2.2.1 := fun e => hc (by rw [e])
      rw [if_neg hc2]
      refine m_J_run hM 1 rfl ⟨trivial, trivial⟩ ?_
      exact m_iret hM rfl rfl rfl (Nat.le_of_ble_eq_true rfl) (Nat.le_of_ble_eq_true rfl) (rfl) (rfl)
    · have hc2 : v = q.2.2.1 := (k_eqN (by omega) (by omega)).mp (Classical.not_not.mp hc)
      rw [if_pos hc2]
      refine m_J_run hM 3 rfl ⟨trivial, trivial, trivial, trivial⟩ ?_
      refine m_J_getf hM rfl rfl (h2) (rfl) ?_
      refine m_J_run hM 1 rfl ⟨trivial, trivial⟩ ?_
      refine m_J_getf hM rfl rfl (hq) (rfl) ?_
      refine m_laldN hM rfl (h3) (by omega) (by omega) ?_
      refine m_J_run hM 1 rfl ⟨trivial, trivial⟩ ?_
      refine m_callS (as := [.long (x &&& f q.2.1)]) (rest := [.int p0]) (m_EX_warm E N xs) hM rfl kw_X2_67 rfl (s_pc _) rfl (Nat.le_of_ble_eq_true rfl) (Nat.le_of_ble_eq_true rfl) (Nat.le_of_ble_eq_true rfl) (fun ht => ⟨ht, Nat.le_refl _⟩) ?_
      refine m_J_run hM 3 rfl ⟨trivial, trivial, trivial, trivial⟩ ?_
      exact m_iret hM rfl rfl rfl (Nat.le_of_ble_eq_true rfl) (Nat.le_of_ble_eq_true rfl) (rfl) (rfl)
  refine m_J_run hM 4 rfl ⟨trivial, trivial, trivial, trivial, trivial⟩ ?_
  refine m_J_getf hM rfl rfl (hq) (rfl) ?_
  refine m_J_run hM 1 rfl ⟨trivial, trivial⟩ ?_
  unfold k_np
  refine m_J_if (fun hc => ?_) (fun hc => ?_)
  · have hc2 : ¬ v = q.2.1 := fun e => hc (by rw [e])
    rw [if_neg hc2]
    exact part2 _
  · have hc2 : v = q.2.1 := (k_eqN (by omega) (by omega)).mp (Classical.not_not.mp hc)
    rw [if_pos hc2]
    refine m_J_run hM 3 rfl ⟨trivial, trivial, trivial, trivial⟩ ?_
    refine m_J_getf hM rfl rfl (h2) (rfl) ?_
    refine m_J_run hM 1 rfl ⟨trivial, trivial⟩ ?_
    refine m_J_getf hM rfl rfl (hq) (rfl) ?_
    refine m_laldN hM rfl (h3) (by omega) (by omega) ?_
    refine m_J_run hM 1 rfl ⟨trivial, trivial⟩ ?_
    refine m_callS (as := [.long (x &&& f q.2.2.1)]) (rest := [.int (nI 0)]) (m_EX_warm E N xs) hM rfl kw_X2_67 rfl (s_pc _) rfl (Nat.le_of_ble_eq_true rfl) (Nat.le_of_ble_eq_true rfl) (Nat.le_of_ble_eq_true rfl) (fun ht => ⟨ht, Nat.le_refl _⟩) ?_
    refine m_J_run hM 2 rfl ⟨trivial, trivial, trivial⟩ ?_
    exact part2 _
theorem i_worth (hok : k_lok q) (hq : h[c]? = some (k_ln q)) (hL : k_LD h a u b s r w f so) : m_Dt l (m_EX E N xs) E mM_X2_worthOf (d + 3) 0 0 [.ref c, .ref a] h tg (some (.int (k_lw q f so))) h tg := by
  have hM := mM_X2_worthOf_ok
  obtain ⟨hk, hu, ho, -, hst, hso, -⟩ := hok
  obtain ⟨h1, h2, h3, h4, h5, h6⟩ := id hL
  refine m_Sp_of (by decide) (Nat.le_of_ble_eq_true rfl) ?_
  refine m_J_run hM 1 rfl ⟨trivial, trivial⟩ ?_
  refine m_J_getf hM rfl rfl (hq) (rfl) ?_
  have e0 : ∀ k : Nat, q.1 = k → nI q.1 = nI k := fun k e => by rw [e]
  by_cases k0 : q.1 = 0
  · rw [e0 0 k0]
    refine m_J_run hM 1 rfl ⟨by decide, trivial⟩ ?_
    refine m_eqS (S := (32, [some (.ref c), some (.ref a)], [], h)) ?_ rfl
    unfold k_lw
    rw [if_pos k0]
    refine m_J_run hM 1 rfl ⟨trivial, trivial⟩ ?_
    refine m_J_getf hM rfl rfl (hq) (rfl) ?_
    refine m_J_run hM 2 rfl ⟨trivial, trivial, trivial⟩ ?_
    refine m_J_getf hM rfl rfl (hq) (rfl) ?_
    refine m_J_run hM 1 rfl ⟨trivial, trivial⟩ ?_
    refine m_J_getf hM rfl rfl (hq) (rfl) ?_
    refine m_J_run hM 1 rfl ⟨trivial, trivial⟩ ?_
    refine m_J_getf hM rfl rfl (hq) (rfl) ?_
    refine m_callV (as := [.int (nI q.2.1), .int (nI q.2.2.1), .int (nI q.2.2.2.2.1)]) (rest := [.int q.2.2.2.2.2.2]) (m_EX_warm E N xs) hM rfl kw_X2_25 rfl rfl (h1) ⟨_, rfl, rfl⟩ (l_pairs (by omega) hu ho hL) rfl (Nat.le_of_ble_eq_true rfl) (Nat.le_of_ble_eq_true rfl) (Nat.le_of_ble_eq_true rfl) (fun ht => ⟨ht, by simp⟩) ?_
    refine m_J_run hM 1 rfl ⟨trivial, trivial⟩ ?_
    exact m_iret hM rfl rfl rfl (Nat.le_of_ble_eq_true rfl) (Nat.le_of_ble_eq_true rfl) (rfl) (rfl)
  · by_cases k1 : q.1 = 1
    · rw [e0 1 k1]
      refine m_J_run hM 1 rfl ⟨by decide, trivial⟩ ?_
      refine m_eqS (S := (54, [some (.ref c), some (.ref a)], [], h)) ?_ rfl
      unfold k_lw
      rw [if_neg k0, if_pos k1]
      refine m_J_run hM 1 rfl ⟨trivial, trivial⟩ ?_
      refine m_J_getf hM rfl rfl (hq) (rfl) ?_
      refine m_J_run hM 2 rfl ⟨trivial, trivial, trivial⟩ ?_
      refine m_J_getf hM rfl rfl (hq) (rfl) ?_
      refine m_J_run hM 1 rfl ⟨trivial, trivial⟩ ?_
      refine m_J_getf hM rfl rfl (hq) (rfl) ?_
      refine m_callV (as := [.int (nI q.2.1), .int (nI q.2.2.2.2.2.1)]) (rest := [.int q.2.2.2.2.2.2]) (m_EX_warm E N xs) hM rfl kw_X2_34 rfl rfl (h1) ⟨_, rfl, rfl⟩ (l_onSoil hu hL) rfl (Nat.le_of_ble_eq_true rfl) (Nat.le_of_ble_eq_true rfl) (Nat.le_of_ble_eq_true rfl) (fun ht => ⟨ht, by simp⟩) ?_
      refine m_J_run hM 1 rfl ⟨trivial, trivial⟩ ?_
      exact m_iret hM rfl rfl rfl (Nat.le_of_ble_eq_true rfl) (Nat.le_of_ble_eq_true rfl) (rfl) (rfl)
    · have key : m_J l (m_EX E N xs) E mM_X2_worthOf (d + 3) 0 0 (m_K (some (.int (k_lw q f so))) h tg) m_no tg 0 0 (72, [some (.ref c), some (.ref a)], [], h) := by
        unfold k_lw
        rw [if_neg k0, if_neg k1]
        refine m_J_run hM 1 rfl ⟨trivial, trivial⟩ ?_
        exact m_iret hM rfl rfl rfl (Nat.le_of_ble_eq_true rfl) (Nat.le_of_ble_eq_true rfl) (rfl) (rfl)
      rcases (show q.1 = 2 ∨ q.1 = 3 ∨ q.1 = 4 ∨ q.1 = 5 ∨ q.1 = 6 by omega) with e | e | e | e | e
      · rw [e0 _ e]; exact m_J_run hM 1 rfl ⟨by decide, trivial⟩ (m_eqS key rfl)
      · rw [e0 _ e]; exact m_J_run hM 1 rfl ⟨by decide, trivial⟩ (m_eqS key rfl)
      · rw [e0 _ e]; exact m_J_run hM 1 rfl ⟨by decide, trivial⟩ (m_eqS key rfl)
      · rw [e0 _ e]; exact m_J_run hM 1 rfl ⟨by decide, trivial⟩ (m_eqS key rfl)
      · rw [e0 _ e]; exact m_J_run hM 1 rfl ⟨by decide, trivial⟩ (m_eqS key rfl)
theorem i_worthPut {sq v : Nat} (hok : k_lok q) (hsq : sq < 60) (hv : v < 5) (hq : h[c]? = some (k_ln q)) (hL : k_LD h a u b s r w f so) : m_Dt l (m_EX E N xs) E mM_X2_worthOfPutting (d + 2) 0 0 [.ref c, .ref a, .int (nI sq), .int (nI v)] h tg (some (.int (k_lwp q f so sq v))) h tg := by
  have hM := mM_X2_worthOfPutting_ok
  obtain ⟨hk, hu, ho, -, hst, hso, -⟩ := id hok
  obtain ⟨h1, h2, h3, h4, h5, h6⟩ := id hL
  have fin : ∀ e : k_lwp q f so sq v = nI 0, m_J l (m_EX E N xs) E mM_X2_worthOfPutting (d + 2) 0 0 (m_K (some (.int (k_lwp q f so sq v))) h tg) m_no tg 0 0 (67, [some (.ref c), some (.ref a), some (.int (nI sq)), some (.int (nI v))], [], h) := by
    intro e
    refine m_J_run hM 1 rfl ⟨trivial, trivial⟩ ?_
    exact m_iret hM rfl rfl rfl (Nat.le_of_ble_eq_true rfl) (Nat.le_of_ble_eq_true rfl) (e.symm) (rfl)
  refine m_Sp_of (by decide) (Nat.le_of_ble_eq_true rfl) ?_
  refine m_J_run hM 1 rfl ⟨trivial, trivial⟩ ?_
  refine m_J_getf hM rfl rfl (hq) (rfl) ?_
  refine m_J_run hM 1 rfl ⟨trivial, trivial⟩ ?_
  refine m_J_if (fun hc => ?_) (fun hc => ?_)
  · have k0 : ¬ q.1 = 0 := fun e => hc (by rw [e]; rfl)
    refine m_J_run hM 1 rfl ⟨trivial, trivial⟩ ?_
    refine m_J_getf hM rfl rfl (hq) (rfl) ?_
    refine m_J_run hM 2 rfl ⟨trivial, trivial, trivial⟩ ?_
    refine m_J_if (fun hc1 => ?_) (fun hc1 => ?_)
    · have k1 : ¬ q.1 = 1 := fun e => hc1 (by rw [e])
      exact fin (by unfold k_lwp; rw [if_neg k0, if_neg (fun z => k1 z.1)])
    · have k1 : q.1 = 1 := (k_eqN (by omega) (by omega)).mp (Classical.not_not.mp hc1)
      refine m_J_run hM 2 rfl ⟨trivial, trivial, trivial⟩ ?_
      refine m_J_getf hM rfl rfl (hq) (rfl) ?_
      refine m_J_run hM 1 rfl ⟨trivial, trivial⟩ ?_
      refine m_J_if (fun hc2 => ?_) (fun hc2 => ?_)
      · have k2 : ¬ v = q.2.1 := fun e => hc2 (by rw [e])
        exact fin (by unfold k_lwp; rw [if_neg k0, if_neg (fun z => k2 z.2.1)])
      · have k2 : v = q.2.1 := (k_eqN (by omega) (by omega)).mp (Classical.not_not.mp hc2)
        refine m_J_run hM 1 rfl ⟨trivial, trivial⟩ ?_
        refine m_J_getf hM rfl rfl (h1) (rfl) ?_
        refine m_J_run hM 1 rfl ⟨trivial, trivial⟩ ?_
        refine m_ialdN hM rfl (h4) (by omega) (by omega) ?_
        refine m_J_run hM 1 rfl ⟨trivial, trivial⟩ ?_
        refine m_J_getf hM rfl rfl (hq) (rfl) ?_
        refine m_J_run hM 1 rfl ⟨trivial, trivial⟩ ?_
        refine m_J_if (fun hc3 => ?_) (fun hc3 => ?_)
        · exact fin (by unfold k_lwp; rw [if_neg k0, if_neg (fun z => z.2.2 hc3)])
        · refine m_J_run hM 1 rfl ⟨trivial, trivial⟩ ?_
          refine m_J_getf hM rfl rfl (hq) (rfl) ?_
          exact m_iret hM rfl rfl rfl (Nat.le_of_ble_eq_true rfl) (Nat.le_of_ble_eq_true rfl) (by unfold k_lwp; rw [if_neg k0, if_pos ⟨k1, k2, hc3⟩]) (rfl)
  · have k0 : q.1 = 0 := (k_eqN (a := q.1) (b := 0) (by omega) (by omega)).mp (Classical.not_not.mp hc)
    refine m_J_run hM 1 rfl ⟨trivial, trivial⟩ ?_
    refine m_J_getf hM rfl rfl (hq) (rfl) ?_
    refine m_J_run hM 2 rfl ⟨trivial, trivial, trivial⟩ ?_
    refine m_J_getf hM rfl rfl (h1) (rfl) ?_
    refine m_J_run hM 1 rfl ⟨trivial, trivial⟩ ?_
    refine m_J_getf hM rfl rfl (hq) (rfl) ?_
    refine m_aaldN hM rfl (h5) rfl (if_pos (by omega)) (by omega) (by omega) ?_
    refine m_J_run hM 1 rfl ⟨trivial, trivial⟩ ?_
    refine m_laldN hM rfl (h6 _ (by omega)) (by omega) (by omega) ?_
    rw [show k_arow q.2.2.2.2.1 sq = k_ar sq q.2.2.2.2.1 from k_upto_lt _ _ hsq]
    refine m_J_run hM 1 rfl ⟨trivial, trivial⟩ ?_
    refine m_J_getf hM rfl rfl (h1) (rfl) ?_
    refine m_J_run hM 1 rfl ⟨trivial, trivial⟩ ?_
    refine m_callV (as := [.long (k_ar sq q.2.2.2.2.1), .ref u, .int (nI v)]) (rest := [.int q.2.2.2.2.2.2]) (m_EX_warm E N xs) hM rfl kw_X2_46 rfl rfl (hq) ⟨_, rfl, rfl⟩ (i_np hok hv hq h2 h3) rfl (Nat.le_of_ble_eq_true rfl) (Nat.le_of_ble_eq_true rfl) (Nat.le_of_ble_eq_true rfl) (fun ht => ⟨ht, by simp⟩) ?_
    refine m_J_run hM 1 rfl ⟨trivial, trivial⟩ ?_
    exact m_iret hM rfl rfl rfl (Nat.le_of_ble_eq_true rfl) (Nat.le_of_ble_eq_true rfl) (by unfold k_lwp; rw [if_pos k0]) (rfl)
theorem i_brokenPair (hok : k_lok q) (hq : h[c]? = some (k_ln q)) (hL : k_LD h a u b s r w f so) : m_Dt l (m_EX E N xs) E mM_X2_isBrokenByPair (d + 3) 0 0 [.ref c, .ref a] h tg (some (.int (k_z (k_bp q f)))) h tg := by
  have hM := mM_X2_isBrokenByPair_ok
  obtain ⟨hk, hu, ho, -, hst, hso, hap⟩ := id hok
  obtain ⟨h1, h2, h3, h4, h5, h6⟩ := id hL
  refine m_Sp_of (by decide) (Nat.le_of_ble_eq_true rfl) ?_
  refine m_J_run hM 1 rfl ⟨trivial, trivial⟩ ?_
  refine m_J_getf hM rfl rfl (hq) (rfl) ?_
  refine m_J_run hM 2 rfl ⟨trivial, trivial, trivial⟩ ?_
  refine m_J_if (fun hc => ?_) (fun hc => ?_)
  · have k2 : ¬ q.1 = 2 := fun e => hc (by rw [e])
    refine m_J_run hM 1 rfl ⟨trivial, trivial⟩ ?_
    exact m_iret hM rfl rfl (by decide) (Nat.le_of_ble_eq_true rfl) (Nat.le_of_ble_eq_true rfl) (by simp [k_bp, k2, k_z]) (rfl)
  · have k2 : q.1 = 2 := (k_eqN (by omega) (by omega)).mp (Classical.not_not.mp hc)
    have hs1 := hap k2
    refine m_J_run hM 2 rfl ⟨trivial, trivial, trivial⟩ ?_
    refine m_J_getf hM rfl rfl (hq) (rfl) ?_
    refine m_J_run hM 1 rfl ⟨trivial, trivial⟩ ?_
    refine m_J_getf hM rfl rfl (hq) (rfl) ?_
    refine m_J_run hM 1 rfl ⟨trivial, trivial⟩ ?_
    refine m_J_getf hM rfl rfl (hq) (rfl) ?_
    refine m_J_run hM 2 rfl ⟨trivial, trivial, trivial⟩ ?_
    rw [show nI q.2.2.2.2.1 - nI 1 = nI (q.2.2.2.2.1 - 1) from pk_sub hs1]
    refine m_callV (as := [.int (nI q.2.1), .int (nI q.2.2.1), .int (nI (q.2.2.2.2.1 - 1))]) (rest := []) (m_EX_warm E N xs) hM rfl kw_X2_25 rfl rfl (h1) ⟨_, rfl, rfl⟩ (l_pairs (by omega) hu ho hL) rfl (Nat.le_of_ble_eq_true rfl) (Nat.le_of_ble_eq_true rfl) (Nat.le_of_ble_eq_true rfl) (fun ht => ⟨ht, by simp⟩) ?_
    refine m_J_run hM 1 rfl ⟨trivial, trivial⟩ ?_
    refine m_J_if (fun hc3 => ?_) (fun hc3 => ?_)
    · refine m_J_run hM 1 rfl ⟨trivial, trivial⟩ ?_
      exact m_iret hM rfl rfl (by decide) (Nat.le_of_ble_eq_true rfl) (Nat.le_of_ble_eq_true rfl) (by simp [k_bp, k2, k_z, hc3]) (rfl)
    · refine m_J_run hM 2 rfl ⟨trivial, trivial, trivial⟩ ?_
      exact m_iret hM rfl rfl (by decide) (Nat.le_of_ble_eq_true rfl) (Nat.le_of_ble_eq_true rfl) (by simp [k_bp, k2, k_z, hc3]) (rfl)
theorem i_brokenPut {sq v : Nat} (hok : k_lok q) (hsq : sq < 60) (hv : v < 5) (hq : h[c]? = some (k_ln q)) (hL : k_LD h a u b s r w f so) : m_Dt l (m_EX E N xs) E mM_X2_isBrokenByPutting (d + 2) 0 0 [.ref c, .ref a, .int (nI sq), .int (nI v)] h tg (some (.int (k_z (k_bpp q f sq v)))) h tg := by
  have hM := mM_X2_isBrokenByPutting_ok
  obtain ⟨hk, hu, ho, -, hst, hso, hap⟩ := id hok
  obtain ⟨h1, h2, h3, h4, h5, h6⟩ := id hL
  refine m_Sp_of (by decide) (Nat.le_of_ble_eq_true rfl) ?_
  refine m_J_run hM 1 rfl ⟨trivial, trivial⟩ ?_
  refine m_J_getf hM rfl rfl (hq) (rfl) ?_
  refine m_J_run hM 2 rfl ⟨trivial, trivial, trivial⟩ ?_
  refine m_J_if (fun hc => ?_) (fun hc => ?_)
  · have k2 : ¬ q.1 = 2 := fun e => hc (by rw [e])
    refine m_J_run hM 1 rfl ⟨trivial, trivial⟩ ?_
    exact m_iret hM rfl rfl (by decide) (Nat.le_of_ble_eq_true rfl) (Nat.le_of_ble_eq_true rfl) (by simp [k_bpp, k2, k_z]) (rfl)
  · have k2 : q.1 = 2 := (k_eqN (by omega) (by omega)).mp (Classical.not_not.mp hc)
    have hs1 := hap k2
    refine m_J_run hM 2 rfl ⟨trivial, trivial, trivial⟩ ?_
    refine m_J_getf hM rfl rfl (h1) (rfl) ?_
    refine m_J_run hM 1 rfl ⟨trivial, trivial⟩ ?_
    refine m_J_getf hM rfl rfl (hq) (rfl) ?_
    refine m_J_run hM 2 rfl ⟨trivial, trivial, trivial⟩ ?_
    rw [show nI q.2.2.2.2.1 - nI 1 = nI (q.2.2.2.2.1 - 1) from pk_sub hs1]
    refine m_aaldN hM rfl (h5) rfl (if_pos (by omega)) (by omega) (by omega) ?_
    refine m_J_run hM 1 rfl ⟨trivial, trivial⟩ ?_
    refine m_laldN hM rfl (h6 _ (by omega)) (by omega) (by omega) ?_
    rw [show k_arow (q.2.2.2.2.1 - 1) sq = k_ar sq (q.2.2.2.2.1 - 1) from k_upto_lt _ _ hsq]
    refine m_J_run hM 1 rfl ⟨trivial, trivial⟩ ?_
    refine m_J_getf hM rfl rfl (h1) (rfl) ?_
    refine m_J_run hM 1 rfl ⟨trivial, trivial⟩ ?_
    refine m_callV (as := [.long (k_ar sq (q.2.2.2.2.1 - 1)), .ref u, .int (nI v)]) (rest := []) (m_EX_warm E N xs) hM rfl kw_X2_46 rfl rfl (hq) ⟨_, rfl, rfl⟩ (i_np hok hv hq h2 h3) rfl (Nat.le_of_ble_eq_true rfl) (Nat.le_of_ble_eq_true rfl) (Nat.le_of_ble_eq_true rfl) (fun ht => ⟨ht, by simp⟩) ?_
    refine m_J_run hM 1 rfl ⟨trivial, trivial⟩ ?_
    refine m_J_if (fun hc3 => ?_) (fun hc3 => ?_)
    · refine m_J_run hM 1 rfl ⟨trivial, trivial⟩ ?_
      exact m_iret hM rfl rfl (by decide) (Nat.le_of_ble_eq_true rfl) (Nat.le_of_ble_eq_true rfl) (by simp [k_bpp, k2, k_z, hc3]) (rfl)
    · refine m_J_run hM 2 rfl ⟨trivial, trivial, trivial⟩ ?_
      exact m_iret hM rfl rfl (by decide) (Nat.le_of_ble_eq_true rfl) (Nat.le_of_ble_eq_true rfl) (by simp [k_bpp, k2, k_z, hc3]) (rfl)
theorem i_brokenWhole (hok : k_lok q) (hq : h[c]? = some (k_ln q)) (hL : k_LD h a u b s r w f so) : m_Dt l (m_EX E N xs) E mM_X2_isBrokenByWhole (d + 2) 0 0 [.ref c, .ref a] h tg (some (.int (k_z (k_bw q f)))) h tg := by
  have hM := mM_X2_isBrokenByWhole_ok
  obtain ⟨hk, hu, ho, -, hst, hso, hap⟩ := id hok
  obtain ⟨h1, h2, h3, h4, h5, h6⟩ := id hL
  have e0 : ∀ k : Nat, q.1 = k → nI q.1 = nI k := fun k e => by rw [e]
  refine m_Sp_of (by decide) (Nat.le_of_ble_eq_true rfl) ?_
  refine m_J_run hM 1 rfl ⟨trivial, trivial⟩ ?_
  refine m_J_getf hM rfl rfl (h1) (rfl) ?_
  refine m_J_run hM 1 rfl ⟨trivial, trivial⟩ ?_
  refine m_J_getf hM rfl rfl (hq) (rfl) ?_
  refine m_callV (as := [.int (nI q.2.1)]) (rest := []) (m_EX_warm E N xs) hM rfl kw_X2_73 rfl rfl (h2) ⟨_, rfl, rfl⟩ (u_of hu h2 h3) rfl (Nat.le_of_ble_eq_true rfl) (Nat.le_of_ble_eq_true rfl) (Nat.le_of_ble_eq_true rfl) (fun ht => ⟨ht, by simp⟩) ?_
  refine m_J_run hM 2 rfl ⟨trivial, trivial, trivial⟩ ?_
  refine m_J_getf hM rfl rfl (hq) (rfl) ?_
  have fin : ∀ e : k_bw q f = false, m_J l (m_EX E N xs) E mM_X2_isBrokenByWhole (d + 2) 0 0 (m_K (some (.int (k_z (k_bw q f)))) h tg) m_no tg 0 0 (91, [some (.ref c), some (.ref a), some (.long (f q.2.1)), none], [], h) := by
    intro e
    refine m_J_run hM 1 rfl ⟨trivial, trivial⟩ ?_
    exact m_iret hM rfl rfl (by decide) (Nat.le_of_ble_eq_true rfl) (Nat.le_of_ble_eq_true rfl) (by rw [e]; rfl) (rfl)
  rcases (show q.1 = 0 ∨ q.1 = 1 ∨ q.1 = 2 ∨ q.1 = 3 ∨ q.1 = 4 ∨ q.1 = 5 ∨ q.1 = 6 by omega) with e | e | e | e | e | e | e
  · rw [e0 _ e]; exact m_J_run hM 1 rfl ⟨by decide, trivial⟩ (m_eqS (fin (by simp [k_bw, e])) rfl)
  · rw [e0 _ e]; exact m_J_run hM 1 rfl ⟨by decide, trivial⟩ (m_eqS (fin (by simp [k_bw, e])) rfl)
  · rw [e0 _ e]; exact m_J_run hM 1 rfl ⟨by decide, trivial⟩ (m_eqS (fin (by simp [k_bw, e])) rfl)
  · rw [e0 _ e]
    refine m_J_run hM 1 rfl ⟨by decide, trivial⟩ ?_
    refine m_eqS (S := (44, [some (.ref c), some (.ref a), some (.long (f q.2.1)), none], [], h)) ?_ rfl
    refine m_J_run hM 1 rfl ⟨trivial, trivial⟩ ?_
    refine m_callS (as := [.long (f q.2.1)]) (rest := []) (m_EX_warm E N xs) hM rfl kw_X2_67 rfl (s_pc _) rfl (Nat.le_of_ble_eq_true rfl) (Nat.le_of_ble_eq_true rfl) (Nat.le_of_ble_eq_true rfl) (fun ht => ⟨ht, Nat.le_refl _⟩) ?_
    refine m_J_run hM 1 rfl ⟨trivial, trivial⟩ ?_
    refine m_J_getf hM rfl rfl (hq) (rfl) ?_
    refine m_J_run hM 1 rfl ⟨trivial, trivial⟩ ?_
    refine m_J_if (fun hc => ?_) (fun hc => ?_)
    · refine m_J_run hM 1 rfl ⟨trivial, trivial⟩ ?_
      exact m_iret hM rfl rfl (by decide) (Nat.le_of_ble_eq_true rfl) (Nat.le_of_ble_eq_true rfl) (by simp [k_bw, e, hc, k_z]) (rfl)
    · refine m_J_run hM 2 rfl ⟨trivial, trivial, trivial⟩ ?_
      exact m_iret hM rfl rfl (by decide) (Nat.le_of_ble_eq_true rfl) (Nat.le_of_ble_eq_true rfl) (by simp [k_bw, e, hc, k_z]) (rfl)
  · rw [e0 _ e]
    refine m_J_run hM 1 rfl ⟨by decide, trivial⟩ ?_
    refine m_eqS (S := (61, [some (.ref c), some (.ref a), some (.long (f q.2.1)), none], [], h)) ?_ rfl
    refine m_J_run hM 1 rfl ⟨trivial, trivial⟩ ?_
    refine m_callS (as := [.long (f q.2.1)]) (rest := []) (m_EX_warm E N xs) hM rfl kw_X2_67 rfl (s_pc _) rfl (Nat.le_of_ble_eq_true rfl) (Nat.le_of_ble_eq_true rfl) (Nat.le_of_ble_eq_true rfl) (fun ht => ⟨ht, Nat.le_refl _⟩) ?_
    refine m_J_run hM 1 rfl ⟨trivial, trivial⟩ ?_
    refine m_J_getf hM rfl rfl (hq) (rfl) ?_
    refine m_J_run hM 1 rfl ⟨trivial, trivial⟩ ?_
    refine m_J_if (fun hc => ?_) (fun hc => ?_)
    · refine m_J_run hM 1 rfl ⟨trivial, trivial⟩ ?_
      exact m_iret hM rfl rfl (by decide) (Nat.le_of_ble_eq_true rfl) (Nat.le_of_ble_eq_true rfl) (by simp [k_bw, e, hc, k_z]) (rfl)
    · refine m_J_run hM 2 rfl ⟨trivial, trivial, trivial⟩ ?_
      exact m_iret hM rfl rfl (by decide) (Nat.le_of_ble_eq_true rfl) (Nat.le_of_ble_eq_true rfl) (by simp [k_bw, e, hc, k_z]) (rfl)
  · rw [e0 _ e]
    refine m_J_run hM 1 rfl ⟨by decide, trivial⟩ ?_
    refine m_eqS (S := (78, [some (.ref c), some (.ref a), some (.long (f q.2.1)), none], [], h)) ?_ rfl
    refine m_J_run hM 1 rfl ⟨trivial, trivial⟩ ?_
    refine m_callS (as := [.long (f q.2.1)]) (rest := []) (m_EX_warm E N xs) hM rfl kw_X2_77 rfl (s_joined _) rfl (Nat.le_of_ble_eq_true rfl) (Nat.le_of_ble_eq_true rfl) (Nat.le_of_ble_eq_true rfl) (fun ht => ⟨ht, Nat.le_refl _⟩) ?_
    refine m_J_run hM 1 rfl ⟨trivial, trivial⟩ ?_
    refine m_J_if (fun hc => ?_) (fun hc => ?_)
    · refine m_J_run hM 1 rfl ⟨trivial, trivial⟩ ?_
      exact m_iret hM rfl rfl (by decide) (Nat.le_of_ble_eq_true rfl) (Nat.le_of_ble_eq_true rfl) (by have := k_z1 hc; simp [k_bw, e, this, k_z]) (rfl)
    · refine m_J_run hM 2 rfl ⟨trivial, trivial, trivial⟩ ?_
      exact m_iret hM rfl rfl (by decide) (Nat.le_of_ble_eq_true rfl) (Nat.le_of_ble_eq_true rfl) (by have := k_z0 (Classical.not_not.mp hc); simp [k_bw, e, this, k_z]) (rfl)
  · rw [e0 _ e]; exact m_J_run hM 1 rfl ⟨by decide, trivial⟩ (m_eqS (fin (by simp [k_bw, e])) rfl)
theorem i_broken (hok : k_lok q) (hq : h[c]? = some (k_ln q)) (hL : k_LD h a u b s r w f so) : m_Dt l (m_EX E N xs) E mM_X2_isBroken (d + 4) 0 0 [.ref c, .ref a] h tg (some (.int (k_z (k_br q f)))) h tg := by
  have hM := mM_X2_isBroken_ok
  obtain ⟨hk, hu, ho, -, hst, hso, hap⟩ := id hok
  refine m_Sp_of (by decide) (Nat.le_of_ble_eq_true rfl) ?_
  refine m_J_run hM 1 rfl ⟨trivial, trivial⟩ ?_
  refine m_J_getf hM rfl rfl (hq) (rfl) ?_
  refine m_J_run hM 2 rfl ⟨trivial, trivial, trivial⟩ ?_
  unfold k_br
  refine m_J_if (fun hc => ?_) (fun hc => ?_)
  · have k2 : ¬ q.1 = 2 := fun e => hc (by rw [e])
    rw [if_neg k2]
    refine m_J_run hM 2 rfl ⟨trivial, trivial, trivial⟩ ?_
    refine m_callV (as := [.ref a]) (rest := []) (m_EX_warm E N xs) hM rfl kw_X2_58 rfl rfl (hq) ⟨_, rfl, rfl⟩ (i_brokenWhole hok hq hL) rfl (Nat.le_of_ble_eq_true rfl) (Nat.le_of_ble_eq_true rfl) (Nat.le_of_ble_eq_true rfl) (fun ht => ⟨ht, by simp⟩) ?_
    exact m_iret hM rfl rfl (k_z_nar _) (Nat.le_of_ble_eq_true rfl) (Nat.le_of_ble_eq_true rfl) (rfl) (rfl)
  · have k2 : q.1 = 2 := (k_eqN (by omega) (by omega)).mp (Classical.not_not.mp hc)
    rw [if_pos k2]
    refine m_J_run hM 2 rfl ⟨trivial, trivial, trivial⟩ ?_
    refine m_callV (as := [.ref a]) (rest := []) (m_EX_warm E N xs) hM rfl kw_X2_54 rfl rfl (hq) ⟨_, rfl, rfl⟩ (i_brokenPair hok hq hL) rfl (Nat.le_of_ble_eq_true rfl) (Nat.le_of_ble_eq_true rfl) (Nat.le_of_ble_eq_true rfl) (fun ht => ⟨ht, by simp⟩) ?_
    refine m_J_run hM 1 rfl ⟨trivial, trivial⟩ ?_
    exact m_iret hM rfl rfl (k_z_nar _) (Nat.le_of_ble_eq_true rfl) (Nat.le_of_ble_eq_true rfl) (rfl) (rfl)
theorem i_grows {sq : Nat} (hok : k_lok q) (hsq : sq < 60) (hq : h[c]? = some (k_ln q)) (hL : k_LD h a u b s r w f so) : m_Dt l (m_EX E N xs) E mM_X2_growsOn (d + 2) 0 0 [.ref c, .ref a, .int (nI sq)] h tg (some (.int (k_z (k_go q f sq)))) h tg := by
  have hM := mM_X2_growsOn_ok
  obtain ⟨hk, hu, ho, -, hst, hso, hap⟩ := id hok
  obtain ⟨h1, h2, h3, h4, h5, h6⟩ := id hL
  have fin : ∀ e : k_go q f sq = false, m_J l (m_EX E N xs) E mM_X2_growsOn (d + 2) 0 0 (m_K (some (.int (k_z (k_go q f sq)))) h tg) m_no tg 0 0 (51, [some (.ref c), some (.ref a), some (.int (nI sq))], [], h) := by
    intro e
    refine m_J_run hM 1 rfl ⟨trivial, trivial⟩ ?_
    exact m_iret hM rfl rfl (by decide) (Nat.le_of_ble_eq_true rfl) (Nat.le_of_ble_eq_true rfl) (by rw [e]; rfl) (rfl)
  refine m_Sp_of (by decide) (Nat.le_of_ble_eq_true rfl) ?_
  refine m_J_run hM 1 rfl ⟨trivial, trivial⟩ ?_
  refine m_J_getf hM rfl rfl (hq) (rfl) ?_
  refine m_J_run hM 2 rfl ⟨trivial, trivial, trivial⟩ ?_
  refine m_J_if (fun hc => ?_) (fun hc => ?_)
  · have k6 : ¬ q.1 = 6 := fun e => hc (by rw [e])
    exact fin (by simp [k_go, k6])
  · have k6 : q.1 = 6 := (k_eqN (by omega) (by omega)).mp (Classical.not_not.mp hc)
    refine m_J_run hM 1 rfl ⟨trivial, trivial⟩ ?_
    refine m_J_getf hM rfl rfl (h1) (rfl) ?_
    refine m_J_run hM 1 rfl ⟨trivial, trivial⟩ ?_
    refine m_J_getf hM rfl rfl (hq) (rfl) ?_
    refine m_callV (as := [.int (nI q.2.1)]) (rest := []) (m_EX_warm E N xs) hM rfl kw_X2_73 rfl rfl (h2) ⟨_, rfl, rfl⟩ (u_of hu h2 h3) rfl (Nat.le_of_ble_eq_true rfl) (Nat.le_of_ble_eq_true rfl) (Nat.le_of_ble_eq_true rfl) (fun ht => ⟨ht, by simp⟩) ?_
    refine m_J_run hM 1 rfl ⟨trivial, trivial⟩ ?_
    refine m_callS (as := [.long (f q.2.1), .int (nI sq)]) (rest := []) (m_EX_warm E N xs) hM rfl kw_X2_83 rfl (s_has _ _) rfl (Nat.le_of_ble_eq_true rfl) (Nat.le_of_ble_eq_true rfl) (Nat.le_of_ble_eq_true rfl) (fun ht => ⟨ht, Nat.le_refl _⟩) ?_
    refine m_J_run hM 1 rfl ⟨trivial, trivial⟩ ?_
    refine m_J_if (fun hc3 => ?_) (fun hc3 => ?_)
    · have hh := k_z0 hc3
      exact fin (by simp [k_go, hh])
    · have hh := k_z1 hc3
      refine m_J_run hM 3 rfl ⟨trivial, trivial, trivial, trivial⟩ ?_
      refine m_J_getf hM rfl rfl (hq) (rfl) ?_
      refine m_J_run hM 1 rfl ⟨trivial, trivial⟩ ?_
      refine m_J_getf hM rfl rfl (hq) (rfl) ?_
      refine m_callV (as := [.int (nI sq), .int (nI q.2.2.2.2.1), .int (nI q.2.2.1)]) (rest := []) (m_EX_warm E N xs) hM rfl kw_X2_87 rfl rfl (h1) ⟨_, rfl, rfl⟩ (l_around hsq (by omega) ho hL) rfl (Nat.le_of_ble_eq_true rfl) (Nat.le_of_ble_eq_true rfl) (Nat.le_of_ble_eq_true rfl) (fun ht => ⟨ht, by simp⟩) ?_
      refine m_J_run hM 1 rfl ⟨trivial, trivial⟩ ?_
      refine m_J_getf hM rfl rfl (hq) (rfl) ?_
      refine m_J_run hM 1 rfl ⟨trivial, trivial⟩ ?_
      refine m_J_if (fun hc4 => ?_) (fun hc4 => ?_)
      · exact fin (by simp [k_go, hc4])
      · refine m_J_run hM 2 rfl ⟨trivial, trivial, trivial⟩ ?_
        exact m_iret hM rfl rfl (by decide) (Nat.le_of_ble_eq_true rfl) (Nat.le_of_ble_eq_true rfl) (by simp [k_go, k6, hh, hc4, k_z]) (rfl)
end
end
section
/-! BOOK: the lines in their order -/
def k_rws (ad : Nat → Nat) : Nat → Option Nat := fun i => if i < 14 then some (ad i) else none
def k_BK (h : mH) (a rw : Nat) (ad : Nat → Nat) (n : Nat) (q : Nat → kL) : Prop :=
  h[a]? = some (.inr (0, [.ref rw, .int (nI n)])) ∧ h[rw]? = some (k_ra 4 14 (k_rws ad)) ∧ (∀ i, i < 14 → h[ad i]? = some (k_ln (q i))) ∧ n ≤ 14 ∧ ∀ i, i < 14 → k_lok (q i)
def k_sum (g : Nat → Int32) : Nat → Int32
  | 0 => nI 0
  | n + 1 => k_sum g n + g n
def k_laws (q : Nat → kL) : Nat → Int32
  | 0 => nI 0
  | n + 1 => if k_isl (q n) then k_laws q n + nI 1 else k_laws q n
def k_fb (q : Nat → kL) (f : Nat → Int64) : Nat → Nat → Int32
  | 0, _ => -nI 1
  | n + 1, i => if k_br (q i) f then nI i else k_fb q f n (i + 1)
def k_bits (p : Nat → Bool) : Nat → Int32
  | 0 => nI 0
  | n + 1 => if p n then k_bits p n ||| (nI 1 <<< (nI n &&& 31)) else k_bits p n
/-- a square's growth: by the first line that makes it grow -/
def k_g1 (q : Nat → kL) (f g : Nat → Int64) (sq : Nat) : Nat → Nat → Nat → Int64
  | 0, _ => g
  | n + 1, i => if k_go (q i) f sq then k_put g (k_only sq) (q i).2.2.2.1 else k_g1 q f g sq n (i + 1)
def k_g60 (q : Nat → kL) (f g : Nat → Int64) (m : Nat) : Nat → Nat → Int64
  | 0 => g
  | n + 1 => k_g1 q f (k_g60 q f g m n) n m 0
theorem k_neT {h : mH} {a b : Nat} {t n t' n' : Nat} {x x' : (Nat → Int32) ⊕ (Nat → Int64) ⊕ (Nat → UInt32) ⊕ (Nat → UInt64) ⊕ (Nat → Option Nat)} (ha : h[a]? = some (.inl (t, n, x))) (hb : h[b]? = some (.inl (t', n', x'))) (hne : t ≠ t' ∨ n ≠ n') : a ≠ b := by
  intro e
  subst e
  rw [ha] at hb
  cases hb
  rcases hne with h | h <;> exact h rfl
theorem k_LD_set {h : mH} {a u b s r : Nat} {w : Nat → Nat} {f : Nat → Int64} {so : Nat → Int32} {b2 : Nat} {g : Nat → Int64} {z : va_E} (hL : k_LD h a u b s r w f so) (h2 : h[b2]? = some (k_la 5 g)) (hne : b ≠ b2) : k_LD (h.set b2 z) a u b s r w f so := by
  obtain ⟨h1, h2', h3, h4, h5, h6⟩ := hL
  exact ⟨k_sn (k_ne h1 h2) h1, k_sn (k_ne h2' h2) h2', k_sn hne h3, k_sn (k_neT h4 h2 (by simp)) h4, k_sn (k_neT h5 h2 (by simp)) h5, fun i hi => k_sn (k_neT (h6 i hi) h2 (by simp)) (h6 i hi)⟩
theorem k_BK_set {h : mH} {a rw : Nat} {ad : Nat → Nat} {n : Nat} {q : Nat → kL} {b2 k : Nat} {g : Nat → Int64} {z : va_E} (hB : k_BK h a rw ad n q) (h2 : h[b2]? = some (k_la k g)) : k_BK (h.set b2 z) a rw ad n q := by
  obtain ⟨h1, h2', h3, h4⟩ := hB
  exact ⟨k_sn (k_ne h1 h2) h1, k_sn (k_neT h2' h2 (by simp)) h2', fun i hi => k_sn (k_ne (h3 i hi) h2) (h3 i hi), h4⟩
section
variable {l : Launch} {E : mE} {N : Nat} {xs : Nat → Int32} {d : Nat} {tg : Bool} {h : mH} {a u b s r : Nat} {w : Nat → Nat} {f : Nat → Int64} {so : Nat → Int32} {bk rw : Nat} {ad : Nat → Nat} {m : Nat} {q : Nat → kL}
theorem b_laws (hB : k_BK h bk rw ad m q) : m_Dt l (m_EX E N xs) E mM_X0_countLaws (d + 1) 0 0 [.ref bk] h tg (some (.int (k_laws q m))) h tg := by
  have hM := mM_X0_countLaws_ok
  obtain ⟨h1, h2, h3, hm, hq⟩ := id hB
  refine m_Sp_of (by decide) (Nat.le_of_ble_eq_true rfl) ?_
  refine m_J_run hM 4 rfl ⟨trivial, trivial, trivial, trivial, trivial⟩ ?_
  have loop : ∀ n i : Nat, i + n = m → m_J l (m_EX E N xs) E mM_X0_countLaws (d + 1) 0 0 (m_K (some (.int (k_laws q m))) h tg) m_no tg 0 0 (4, [some (.ref bk), some (.int (k_laws q i)), some (.int (nI i))], [], h) := by
    intro n
    induction n with
    | zero =>
      intro i hi
      have e : i = m := by omega
      subst e
      refine m_J_run hM 2 rfl ⟨trivial, trivial, trivial⟩ ?_
      refine m_J_getf hM rfl rfl (h1) (rfl) ?_
      refine m_J_run hM 1 rfl ⟨trivial, trivial⟩ ?_
      refine m_J_if (fun _ => ?_) (fun hc => absurd (nI_le (Nat.le_refl _) (by omega)) hc)
      refine m_J_run hM 1 rfl ⟨trivial, trivial⟩ ?_
      exact m_iret hM rfl rfl rfl (Nat.le_of_ble_eq_true rfl) (Nat.le_of_ble_eq_true rfl) (rfl) (rfl)
    | succ n ih =>
      intro i hi
      refine m_J_run hM 2 rfl ⟨trivial, trivial, trivial⟩ ?_
      refine m_J_getf hM rfl rfl (h1) (rfl) ?_
      refine m_J_run hM 1 rfl ⟨trivial, trivial⟩ ?_
      refine m_J_if (fun hc => absurd hc (nI_ge (by omega) (by omega))) (fun _ => ?_)
      refine m_J_run hM 1 rfl ⟨trivial, trivial⟩ ?_
      refine m_J_getf hM rfl rfl (h1) (rfl) ?_
      refine m_J_run hM 1 rfl ⟨trivial, trivial⟩ ?_
      refine m_aaldN hM rfl (h2) rfl (if_pos (by omega)) (by omega) (by omega) ?_
      refine m_callV (as := []) (rest := []) (m_EX_warm E N xs) hM rfl kw_X0_22 rfl rfl (h3 i (by omega)) ⟨_, rfl, rfl⟩ (i_isLaw (hq i (by omega)).1 (h3 i (by omega))) rfl (Nat.le_of_ble_eq_true rfl) (Nat.le_of_ble_eq_true rfl) (Nat.le_of_ble_eq_true rfl) (fun ht => ⟨ht, by simp⟩) ?_
      refine m_J_run hM 1 rfl ⟨trivial, trivial⟩ ?_
      refine m_J_if (fun hc => ?_) (fun hc => ?_)
      · have hc2 := k_z0 hc
        refine m_J_run hM 2 rfl ⟨trivial, trivial, trivial⟩ ?_
        refine m_eqS (ih (i + 1) (by omega)) ?_
        rw [k_succ i, k_laws, if_neg (by rw [hc2]; decide)]
        rfl
      · have hc2 := k_z1 hc
        refine m_J_run hM 3 rfl ⟨trivial, trivial, trivial, trivial⟩ ?_
        refine m_eqS (ih (i + 1) (by omega)) ?_
        rw [k_succ i, k_laws, if_pos hc2]
        rfl
  exact loop m 0 (by omega)
theorem b_worth (hB : k_BK h bk rw ad m q) (hL : k_LD h a u b s r w f so) : m_Dt l (m_EX E N xs) E mM_X0_worthOf (d + 4) 0 0 [.ref bk, .ref a] h tg (some (.int (k_sum (fun i => k_lw (q i) f so) m))) h tg := by
  have hM := mM_X0_worthOf_ok
  obtain ⟨h1, h2, h3, hm, hq⟩ := id hB
  refine m_Sp_of (by decide) (Nat.le_of_ble_eq_true rfl) ?_
  refine m_J_run hM 4 rfl ⟨trivial, trivial, trivial, trivial, trivial⟩ ?_
  have loop : ∀ n i : Nat, i + n = m → m_J l (m_EX E N xs) E mM_X0_worthOf (d + 4) 0 0 (m_K (some (.int (k_sum (fun i => k_lw (q i) f so) m))) h tg) m_no tg 0 0 (4, [some (.ref bk), some (.ref a), some (.int (k_sum (fun i => k_lw (q i) f so) i)), some (.int (nI i))], [], h) := by
    intro n
    induction n with
    | zero =>
      intro i hi
      have e : i = m := by omega
      subst e
      refine m_J_run hM 2 rfl ⟨trivial, trivial, trivial⟩ ?_
      refine m_J_getf hM rfl rfl (h1) (rfl) ?_
      refine m_J_run hM 1 rfl ⟨trivial, trivial⟩ ?_
      refine m_J_if (fun _ => ?_) (fun hc => absurd (nI_le (Nat.le_refl _) (by omega)) hc)
      refine m_J_run hM 1 rfl ⟨trivial, trivial⟩ ?_
      exact m_iret hM rfl rfl rfl (Nat.le_of_ble_eq_true rfl) (Nat.le_of_ble_eq_true rfl) (rfl) (rfl)
    | succ n ih =>
      intro i hi
      refine m_J_run hM 2 rfl ⟨trivial, trivial, trivial⟩ ?_
      refine m_J_getf hM rfl rfl (h1) (rfl) ?_
      refine m_J_run hM 1 rfl ⟨trivial, trivial⟩ ?_
      refine m_J_if (fun hc => absurd hc (nI_ge (by omega) (by omega))) (fun _ => ?_)
      refine m_J_run hM 2 rfl ⟨trivial, trivial, trivial⟩ ?_
      refine m_J_getf hM rfl rfl (h1) (rfl) ?_
      refine m_J_run hM 1 rfl ⟨trivial, trivial⟩ ?_
      refine m_aaldN hM rfl (h2) rfl (if_pos (by omega)) (by omega) (by omega) ?_
      refine m_J_run hM 1 rfl ⟨trivial, trivial⟩ ?_
      refine m_callV (as := [.ref a]) (rest := [.int (k_sum (fun i => k_lw (q i) f so) i)]) (m_EX_warm E N xs) hM rfl kw_X0_26 rfl rfl (h3 i (by omega)) ⟨_, rfl, rfl⟩ (i_worth (hq i (by omega)) (h3 i (by omega)) hL) rfl (Nat.le_of_ble_eq_true rfl) (Nat.le_of_ble_eq_true rfl) (Nat.le_of_ble_eq_true rfl) (fun ht => ⟨ht, by simp⟩) ?_
      refine m_J_run hM 4 rfl ⟨trivial, trivial, trivial, trivial, trivial⟩ ?_
      refine m_eqS (ih (i + 1) (by omega)) ?_
      rw [k_succ i]
      rfl
  exact loop m 0 (by omega)
theorem b_worthPut {sq v : Nat} (hsq : sq < 60) (hv : v < 5) (hB : k_BK h bk rw ad m q) (hL : k_LD h a u b s r w f so) : m_Dt l (m_EX E N xs) E mM_X0_worthOfPutting (d + 3) 0 0 [.ref bk, .ref a, .int (nI sq), .int (nI v)] h tg (some (.int (k_sum (fun i => k_lwp (q i) f so sq v) m))) h tg := by
  have hM := mM_X0_worthOfPutting_ok
  obtain ⟨h1, h2, h3, hm, hq⟩ := id hB
  refine m_Sp_of (by decide) (Nat.le_of_ble_eq_true rfl) ?_
  refine m_J_run hM 4 rfl ⟨trivial, trivial, trivial, trivial, trivial⟩ ?_
  have loop : ∀ n i : Nat, i + n = m → m_J l (m_EX E N xs) E mM_X0_worthOfPutting (d + 3) 0 0 (m_K (some (.int (k_sum (fun i => k_lwp (q i) f so sq v) m))) h tg) m_no tg 0 0 (6, [some (.ref bk), some (.ref a), some (.int (nI sq)), some (.int (nI v)), some (.int (k_sum (fun i => k_lwp (q i) f so sq v) i)), some (.int (nI i))], [], h) := by
    intro n
    induction n with
    | zero =>
      intro i hi
      have e : i = m := by omega
      subst e
      refine m_J_run hM 2 rfl ⟨trivial, trivial, trivial⟩ ?_
      refine m_J_getf hM rfl rfl (h1) (rfl) ?_
      refine m_J_run hM 1 rfl ⟨trivial, trivial⟩ ?_
      refine m_J_if (fun _ => ?_) (fun hc => absurd (nI_le (Nat.le_refl _) (by omega)) hc)
      refine m_J_run hM 1 rfl ⟨trivial, trivial⟩ ?_
      exact m_iret hM rfl rfl rfl (Nat.le_of_ble_eq_true rfl) (Nat.le_of_ble_eq_true rfl) (rfl) (rfl)
    | succ n ih =>
      intro i hi
      refine m_J_run hM 2 rfl ⟨trivial, trivial, trivial⟩ ?_
      refine m_J_getf hM rfl rfl (h1) (rfl) ?_
      refine m_J_run hM 1 rfl ⟨trivial, trivial⟩ ?_
      refine m_J_if (fun hc => absurd hc (nI_ge (by omega) (by omega))) (fun _ => ?_)
      refine m_J_run hM 2 rfl ⟨trivial, trivial, trivial⟩ ?_
      refine m_J_getf hM rfl rfl (h1) (rfl) ?_
      refine m_J_run hM 1 rfl ⟨trivial, trivial⟩ ?_
      refine m_aaldN hM rfl (h2) rfl (if_pos (by omega)) (by omega) (by omega) ?_
      refine m_J_run hM 3 rfl ⟨trivial, trivial, trivial, trivial⟩ ?_
      refine m_callV (as := [.ref a, .int (nI sq), .int (nI v)]) (rest := [.int (k_sum (fun i => k_lwp (q i) f so sq v) i)]) (m_EX_warm E N xs) hM rfl kw_X0_30 rfl rfl (h3 i (by omega)) ⟨_, rfl, rfl⟩ (i_worthPut (hq i (by omega)) hsq hv (h3 i (by omega)) hL) rfl (Nat.le_of_ble_eq_true rfl) (Nat.le_of_ble_eq_true rfl) (Nat.le_of_ble_eq_true rfl) (fun ht => ⟨ht, by simp⟩) ?_
      refine m_J_run hM 4 rfl ⟨trivial, trivial, trivial, trivial, trivial⟩ ?_
      refine m_eqS (ih (i + 1) (by omega)) ?_
      rw [k_succ i]
      rfl
  exact loop m 0 (by omega)
theorem b_first (hB : k_BK h bk rw ad m q) (hL : k_LD h a u b s r w f so) : m_Dt l (m_EX E N xs) E mM_X0_firstBroken (d + 5) 0 0 [.ref bk, .ref a] h tg (some (.int (k_fb q f m 0))) h tg := by
  have hM := mM_X0_firstBroken_ok
  obtain ⟨h1, h2, h3, hm, hq⟩ := id hB
  refine m_Sp_of (by decide) (Nat.le_of_ble_eq_true rfl) ?_
  refine m_J_run hM 2 rfl ⟨trivial, trivial, trivial⟩ ?_
  have loop : ∀ n i : Nat, i + n = m → m_J l (m_EX E N xs) E mM_X0_firstBroken (d + 5) 0 0 (m_K (some (.int (k_fb q f n i))) h tg) m_no tg 0 0 (2, [some (.ref bk), some (.ref a), some (.int (nI i))], [], h) := by
    intro n
    induction n with
    | zero =>
      intro i hi
      have e : i = m := by omega
      subst e
      refine m_J_run hM 2 rfl ⟨trivial, trivial, trivial⟩ ?_
      refine m_J_getf hM rfl rfl (h1) (rfl) ?_
      refine m_J_run hM 1 rfl ⟨trivial, trivial⟩ ?_
      refine m_J_if (fun _ => ?_) (fun hc => absurd (nI_le (Nat.le_refl _) (by omega)) hc)
      refine m_J_run hM 1 rfl ⟨trivial, trivial⟩ ?_
      exact m_iret hM rfl rfl rfl (Nat.le_of_ble_eq_true rfl) (Nat.le_of_ble_eq_true rfl) (rfl) (rfl)
    | succ n ih =>
      intro i hi
      refine m_J_run hM 2 rfl ⟨trivial, trivial, trivial⟩ ?_
      refine m_J_getf hM rfl rfl (h1) (rfl) ?_
      refine m_J_run hM 1 rfl ⟨trivial, trivial⟩ ?_
      refine m_J_if (fun hc => absurd hc (nI_ge (by omega) (by omega))) (fun _ => ?_)
      refine m_J_run hM 1 rfl ⟨trivial, trivial⟩ ?_
      refine m_J_getf hM rfl rfl (h1) (rfl) ?_
      refine m_J_run hM 1 rfl ⟨trivial, trivial⟩ ?_
      refine m_aaldN hM rfl (h2) rfl (if_pos (by omega)) (by omega) (by omega) ?_
      refine m_J_run hM 1 rfl ⟨trivial, trivial⟩ ?_
      refine m_callV (as := [.ref a]) (rest := []) (m_EX_warm E N xs) hM rfl kw_X0_34 rfl rfl (h3 i (by omega)) ⟨_, rfl, rfl⟩ (i_broken (hq i (by omega)) (h3 i (by omega)) hL) rfl (Nat.le_of_ble_eq_true rfl) (Nat.le_of_ble_eq_true rfl) (Nat.le_of_ble_eq_true rfl) (fun ht => ⟨ht, by simp⟩) ?_
      refine m_J_run hM 1 rfl ⟨trivial, trivial⟩ ?_
      refine m_J_if (fun hc => ?_) (fun hc => ?_)
      · have hc2 := k_z0 hc
        rw [k_fb, if_neg (by rw [hc2]; decide)]
        refine m_J_run hM 2 rfl ⟨trivial, trivial, trivial⟩ ?_
        refine m_eqS (ih (i + 1) (by omega)) ?_
        rw [k_succ i]
        rfl
      · have hc2 := k_z1 hc
        rw [k_fb, if_pos hc2]
        refine m_J_run hM 1 rfl ⟨trivial, trivial⟩ ?_
        exact m_iret hM rfl rfl rfl (Nat.le_of_ble_eq_true rfl) (Nat.le_of_ble_eq_true rfl) (rfl) (rfl)
  exact loop m 0 (by omega)
theorem b_pair (hB : k_BK h bk rw ad m q) (hL : k_LD h a u b s r w f so) : m_Dt l (m_EX E N xs) E mM_X0_brokenByPair (d + 4) 0 0 [.ref bk, .ref a] h tg (some (.int (k_bits (fun i => k_bp (q i) f) m))) h tg := by
  have hM := mM_X0_brokenByPair_ok
  obtain ⟨h1, h2, h3, hm, hq⟩ := id hB
  refine m_Sp_of (by decide) (Nat.le_of_ble_eq_true rfl) ?_
  refine m_J_run hM 4 rfl ⟨trivial, trivial, trivial, trivial, trivial⟩ ?_
  have loop : ∀ n i : Nat, i + n = m → m_J l (m_EX E N xs) E mM_X0_brokenByPair (d + 4) 0 0 (m_K (some (.int (k_bits (fun i => k_bp (q i) f) m))) h tg) m_no tg 0 0 (4, [some (.ref bk), some (.ref a), some (.int (k_bits (fun i => k_bp (q i) f) i)), some (.int (nI i))], [], h) := by
    intro n
    induction n with
    | zero =>
      intro i hi
      have e : i = m := by omega
      subst e
      refine m_J_run hM 2 rfl ⟨trivial, trivial, trivial⟩ ?_
      refine m_J_getf hM rfl rfl (h1) (rfl) ?_
      refine m_J_run hM 1 rfl ⟨trivial, trivial⟩ ?_
      refine m_J_if (fun _ => ?_) (fun hc => absurd (nI_le (Nat.le_refl _) (by omega)) hc)
      refine m_J_run hM 1 rfl ⟨trivial, trivial⟩ ?_
      exact m_iret hM rfl rfl rfl (Nat.le_of_ble_eq_true rfl) (Nat.le_of_ble_eq_true rfl) (rfl) (rfl)
    | succ n ih =>
      intro i hi
      refine m_J_run hM 2 rfl ⟨trivial, trivial, trivial⟩ ?_
      refine m_J_getf hM rfl rfl (h1) (rfl) ?_
      refine m_J_run hM 1 rfl ⟨trivial, trivial⟩ ?_
      refine m_J_if (fun hc => absurd hc (nI_ge (by omega) (by omega))) (fun _ => ?_)
      refine m_J_run hM 1 rfl ⟨trivial, trivial⟩ ?_
      refine m_J_getf hM rfl rfl (h1) (rfl) ?_
      refine m_J_run hM 1 rfl ⟨trivial, trivial⟩ ?_
      refine m_aaldN hM rfl (h2) rfl (if_pos (by omega)) (by omega) (by omega) ?_
      refine m_J_run hM 1 rfl ⟨trivial, trivial⟩ ?_
      refine m_callV (as := [.ref a]) (rest := []) (m_EX_warm E N xs) hM rfl kw_X0_38 rfl rfl (h3 i (by omega)) ⟨_, rfl, rfl⟩ (i_brokenPair (hq i (by omega)) (h3 i (by omega)) hL) rfl (Nat.le_of_ble_eq_true rfl) (Nat.le_of_ble_eq_true rfl) (Nat.le_of_ble_eq_true rfl) (fun ht => ⟨ht, by simp⟩) ?_
      refine m_J_run hM 1 rfl ⟨trivial, trivial⟩ ?_
      refine m_J_if (fun hc => ?_) (fun hc => ?_)
      · have hc2 := k_z0 hc
        refine m_J_run hM 2 rfl ⟨trivial, trivial, trivial⟩ ?_
        refine m_eqS (ih (i + 1) (by omega)) ?_
        rw [k_succ i, k_bits, if_neg (by rw [hc2]; decide)]
        rfl
      · have hc2 := k_z1 hc
        refine m_J_run hM 8 rfl ⟨trivial, trivial, trivial, trivial, trivial, trivial, trivial, trivial, trivial⟩ ?_
        refine m_eqS (ih (i + 1) (by omega)) ?_
        rw [k_succ i, k_bits, if_pos hc2]
        rfl
  exact loop m 0 (by omega)
theorem b_whole (hB : k_BK h bk rw ad m q) (hL : k_LD h a u b s r w f so) : m_Dt l (m_EX E N xs) E mM_X0_brokenByWhole (d + 3) 0 0 [.ref bk, .ref a] h tg (some (.int (k_bits (fun i => k_bw (q i) f) m))) h tg := by
  have hM := mM_X0_brokenByWhole_ok
  obtain ⟨h1, h2, h3, hm, hq⟩ := id hB
  refine m_Sp_of (by decide) (Nat.le_of_ble_eq_true rfl) ?_
  refine m_J_run hM 4 rfl ⟨trivial, trivial, trivial, trivial, trivial⟩ ?_
  have loop : ∀ n i : Nat, i + n = m → m_J l (m_EX E N xs) E mM_X0_brokenByWhole (d + 3) 0 0 (m_K (some (.int (k_bits (fun i => k_bw (q i) f) m))) h tg) m_no tg 0 0 (4, [some (.ref bk), some (.ref a), some (.int (k_bits (fun i => k_bw (q i) f) i)), some (.int (nI i))], [], h) := by
    intro n
    induction n with
    | zero =>
      intro i hi
      have e : i = m := by omega
      subst e
      refine m_J_run hM 2 rfl ⟨trivial, trivial, trivial⟩ ?_
      refine m_J_getf hM rfl rfl (h1) (rfl) ?_
      refine m_J_run hM 1 rfl ⟨trivial, trivial⟩ ?_
      refine m_J_if (fun _ => ?_) (fun hc => absurd (nI_le (Nat.le_refl _) (by omega)) hc)
      refine m_J_run hM 1 rfl ⟨trivial, trivial⟩ ?_
      exact m_iret hM rfl rfl rfl (Nat.le_of_ble_eq_true rfl) (Nat.le_of_ble_eq_true rfl) (rfl) (rfl)
    | succ n ih =>
      intro i hi
      refine m_J_run hM 2 rfl ⟨trivial, trivial, trivial⟩ ?_
      refine m_J_getf hM rfl rfl (h1) (rfl) ?_
      refine m_J_run hM 1 rfl ⟨trivial, trivial⟩ ?_
      refine m_J_if (fun hc => absurd hc (nI_ge (by omega) (by omega))) (fun _ => ?_)
      refine m_J_run hM 1 rfl ⟨trivial, trivial⟩ ?_
      refine m_J_getf hM rfl rfl (h1) (rfl) ?_
      refine m_J_run hM 1 rfl ⟨trivial, trivial⟩ ?_
      refine m_aaldN hM rfl (h2) rfl (if_pos (by omega)) (by omega) (by omega) ?_
      refine m_J_run hM 1 rfl ⟨trivial, trivial⟩ ?_
      refine m_callV (as := [.ref a]) (rest := []) (m_EX_warm E N xs) hM rfl kw_X0_45 rfl rfl (h3 i (by omega)) ⟨_, rfl, rfl⟩ (i_brokenWhole (hq i (by omega)) (h3 i (by omega)) hL) rfl (Nat.le_of_ble_eq_true rfl) (Nat.le_of_ble_eq_true rfl) (Nat.le_of_ble_eq_true rfl) (fun ht => ⟨ht, by simp⟩) ?_
      refine m_J_run hM 1 rfl ⟨trivial, trivial⟩ ?_
      refine m_J_if (fun hc => ?_) (fun hc => ?_)
      · have hc2 := k_z0 hc
        refine m_J_run hM 2 rfl ⟨trivial, trivial, trivial⟩ ?_
        refine m_eqS (ih (i + 1) (by omega)) ?_
        rw [k_succ i, k_bits, if_neg (by rw [hc2]; decide)]
        rfl
      · have hc2 := k_z1 hc
        refine m_J_run hM 8 rfl ⟨trivial, trivial, trivial, trivial, trivial, trivial, trivial, trivial, trivial⟩ ?_
        refine m_eqS (ih (i + 1) (by omega)) ?_
        rw [k_succ i, k_bits, if_pos hc2]
        rfl
  exact loop m 0 (by omega)
theorem b_put {sq v : Nat} (hsq : sq < 60) (hv : v < 5) (hB : k_BK h bk rw ad m q) (hL : k_LD h a u b s r w f so) : m_Dt l (m_EX E N xs) E mM_X0_brokenByPutting (d + 3) 0 0 [.ref bk, .ref a, .int (nI sq), .int (nI v)] h tg (some (.int (k_bits (fun i => k_bpp (q i) f sq v) m))) h tg := by
  have hM := mM_X0_brokenByPutting_ok
  obtain ⟨h1, h2, h3, hm, hq⟩ := id hB
  refine m_Sp_of (by decide) (Nat.le_of_ble_eq_true rfl) ?_
  refine m_J_run hM 4 rfl ⟨trivial, trivial, trivial, trivial, trivial⟩ ?_
  have loop : ∀ n i : Nat, i + n = m → m_J l (m_EX E N xs) E mM_X0_brokenByPutting (d + 3) 0 0 (m_K (some (.int (k_bits (fun i => k_bpp (q i) f sq v) m))) h tg) m_no tg 0 0 (6, [some (.ref bk), some (.ref a), some (.int (nI sq)), some (.int (nI v)), some (.int (k_bits (fun i => k_bpp (q i) f sq v) i)), some (.int (nI i))], [], h) := by
    intro n
    induction n with
    | zero =>
      intro i hi
      have e : i = m := by omega
      subst e
      refine m_J_run hM 2 rfl ⟨trivial, trivial, trivial⟩ ?_
      refine m_J_getf hM rfl rfl (h1) (rfl) ?_
      refine m_J_run hM 1 rfl ⟨trivial, trivial⟩ ?_
      refine m_J_if (fun _ => ?_) (fun hc => absurd (nI_le (Nat.le_refl _) (by omega)) hc)
      refine m_J_run hM 1 rfl ⟨trivial, trivial⟩ ?_
      exact m_iret hM rfl rfl rfl (Nat.le_of_ble_eq_true rfl) (Nat.le_of_ble_eq_true rfl) (rfl) (rfl)
    | succ n ih =>
      intro i hi
      refine m_J_run hM 2 rfl ⟨trivial, trivial, trivial⟩ ?_
      refine m_J_getf hM rfl rfl (h1) (rfl) ?_
      refine m_J_run hM 1 rfl ⟨trivial, trivial⟩ ?_
      refine m_J_if (fun hc => absurd hc (nI_ge (by omega) (by omega))) (fun _ => ?_)
      refine m_J_run hM 1 rfl ⟨trivial, trivial⟩ ?_
      refine m_J_getf hM rfl rfl (h1) (rfl) ?_
      refine m_J_run hM 1 rfl ⟨trivial, trivial⟩ ?_
      refine m_aaldN hM rfl (h2) rfl (if_pos (by omega)) (by omega) (by omega) ?_
      refine m_J_run hM 3 rfl ⟨trivial, trivial, trivial, trivial⟩ ?_
      refine m_callV (as := [.ref a, .int (nI sq), .int (nI v)]) (rest := []) (m_EX_warm E N xs) hM rfl kw_X0_41 rfl rfl (h3 i (by omega)) ⟨_, rfl, rfl⟩ (i_brokenPut (hq i (by omega)) hsq hv (h3 i (by omega)) hL) rfl (Nat.le_of_ble_eq_true rfl) (Nat.le_of_ble_eq_true rfl) (Nat.le_of_ble_eq_true rfl) (fun ht => ⟨ht, by simp⟩) ?_
      refine m_J_run hM 1 rfl ⟨trivial, trivial⟩ ?_
      refine m_J_if (fun hc => ?_) (fun hc => ?_)
      · have hc2 := k_z0 hc
        refine m_J_run hM 2 rfl ⟨trivial, trivial, trivial⟩ ?_
        refine m_eqS (ih (i + 1) (by omega)) ?_
        rw [k_succ i, k_bits, if_neg (by rw [hc2]; decide)]
        rfl
      · have hc2 := k_z1 hc
        refine m_J_run hM 8 rfl ⟨trivial, trivial, trivial, trivial, trivial, trivial, trivial, trivial, trivial⟩ ?_
        refine m_eqS (ih (i + 1) (by omega)) ?_
        rw [k_succ i, k_bits, if_pos hc2]
        rfl
  exact loop m 0 (by omega)
set_option maxHeartbeats 1000000 in
theorem b_grow {a2 b2 : Nat} {g : Nat → Int64} (hB : k_BK h bk rw ad m q) (hL : k_LD h a u b s r w f so) (hU : h[a2]? = some (k_uses b2)) (hA : h[b2]? = some (k_la 5 g)) (hne : b ≠ b2) : m_Dt l (m_EX E N xs) E mM_X0_growInto (d + 3) 0 0 [.ref bk, .ref a2, .ref a] h tg none (h.set b2 (k_la 5 (k_g60 q f (k_upto f g 5) m 60))) tg := by
  have hM := mM_X0_growInto_ok
  obtain ⟨h1, h2, h3, hm, hq⟩ := id hB
  obtain ⟨g1, g2, g3, g4, g5, g6⟩ := id hL
  have hab := k_ne hU hA
  refine m_Sp_of (by decide) (Nat.le_of_ble_eq_true rfl) ?_
  refine m_J_run hM 2 rfl ⟨trivial, trivial, trivial⟩ ?_
  refine m_J_getf hM rfl rfl (g1) (rfl) ?_
  refine m_callV (as := [.ref u]) (rest := []) (m_EX_warm E N xs) hM rfl kw_X0_54 rfl rfl (hU) ⟨_, rfl, rfl⟩ (u_become hU hA g2 g3 hne) rfl (Nat.le_of_ble_eq_true rfl) (Nat.le_of_ble_eq_true rfl) (Nat.le_of_ble_eq_true rfl) (fun ht => ⟨ht, by simp⟩) ?_
  refine m_J_run hM 2 rfl ⟨trivial, trivial, trivial⟩ ?_
  -- the lines, at one square
  have inner : ∀ (sq : Nat) (hsq : sq < 60) (G : Nat → Int64) (h9 : mH) (hB9 : k_BK h9 bk rw ad m q) (hL9 : k_LD h9 a u b s r w f so) (hU9 : h9[a2]? = some (k_uses b2)) (hA9 : h9[b2]? = some (k_la 5 G)) (PRx : Option Value → mH → Bool → Prop), ∀ n i : Nat, i + n = m → (∀ v4, m_J l (m_EX E N xs) E mM_X0_growInto (d + 3) 0 0 PRx m_no tg 0 0 (71, [some (.ref bk), some (.ref a2), some (.ref a), some (.int (nI sq)), v4], [], h9.set b2 (k_la 5 (k_g1 q f G sq n i)))) →
      m_J l (m_EX E N xs) E mM_X0_growInto (d + 3) 0 0 PRx m_no tg 0 0 (19, [some (.ref bk), some (.ref a2), some (.ref a), some (.int (nI sq)), some (.int (nI i))], [], h9) := by
    intro sq hsq G h9 hB9 hL9 hU9 hA9 PRx n
    obtain ⟨h1, h2, h3, hm, hq⟩ := id hB9
    obtain ⟨g1, g2, g3, g4, g5, g6⟩ := id hL9
    induction n with
    | zero =>
      intro i hi hk
      have e : i = m := by omega
      refine m_J_run hM 2 rfl ⟨trivial, trivial, trivial⟩ ?_
      refine m_J_getf hM rfl rfl (h1) (rfl) ?_
      refine m_J_run hM 1 rfl ⟨trivial, trivial⟩ ?_
      refine m_J_if (fun _ => ?_) (fun hc => absurd (nI_le (by omega) (by omega)) hc)
      have h0 := hk (some (.int (nI i)))
      rw [k_g1, k_s0 hA9] at h0
      exact h0
    | succ n ih =>
      intro i hi hk
      have hk2 : (q i).2.2.2.1 < 5 := (hq i (by omega)).2.2.2.1
      refine m_J_run hM 2 rfl ⟨trivial, trivial, trivial⟩ ?_
      refine m_J_getf hM rfl rfl (h1) (rfl) ?_
      refine m_J_run hM 1 rfl ⟨trivial, trivial⟩ ?_
      refine m_J_if (fun hc => absurd hc (nI_ge (by omega) (by omega))) (fun _ => ?_)
      refine m_J_run hM 1 rfl ⟨trivial, trivial⟩ ?_
      refine m_J_getf hM rfl rfl (h1) (rfl) ?_
      refine m_J_run hM 1 rfl ⟨trivial, trivial⟩ ?_
      refine m_aaldN hM rfl (h2) rfl (if_pos (by omega)) (by omega) (by omega) ?_
      refine m_J_run hM 2 rfl ⟨trivial, trivial, trivial⟩ ?_
      refine m_callV (as := [.ref a, .int (nI sq)]) (rest := []) (m_EX_warm E N xs) hM rfl kw_X0_60 rfl rfl (h3 i (by omega)) ⟨_, rfl, rfl⟩ (i_grows (hq i (by omega)) hsq (h3 i (by omega)) hL9) rfl (Nat.le_of_ble_eq_true rfl) (Nat.le_of_ble_eq_true rfl) (Nat.le_of_ble_eq_true rfl) (fun ht => ⟨ht, by simp⟩) ?_
      refine m_J_run hM 1 rfl ⟨trivial, trivial⟩ ?_
      rw [k_g1] at hk
      refine m_J_if (fun hc => ?_) (fun hc => ?_)
      · have hc2 := k_z0 hc
        rw [if_neg (by rw [hc2]; decide)] at hk
        refine m_J_run hM 2 rfl ⟨trivial, trivial, trivial⟩ ?_
        refine m_eqS (ih (i + 1) (by omega) hk) ?_
        rw [k_succ i]
        rfl
      · have hc2 := k_z1 hc
        rw [if_pos hc2] at hk
        refine m_J_run hM 2 rfl ⟨trivial, trivial, trivial⟩ ?_
        refine m_callS (as := [.int (nI sq)]) (rest := [.ref a2]) (m_EX_warm E N xs) hM rfl kw_X0_64 rfl (s_only sq) rfl (Nat.le_of_ble_eq_true rfl) (Nat.le_of_ble_eq_true rfl) (Nat.le_of_ble_eq_true rfl) (fun ht => ⟨ht, Nat.le_refl _⟩) ?_
        refine m_J_run hM 1 rfl ⟨trivial, trivial⟩ ?_
        refine m_J_getf hM rfl rfl (h1) (rfl) ?_
        refine m_J_run hM 1 rfl ⟨trivial, trivial⟩ ?_
        refine m_aaldN hM rfl (h2) rfl (if_pos (by omega)) (by omega) (by omega) ?_
        refine m_J_getf hM rfl rfl (h3 i (by omega)) (rfl) ?_
        refine m_callV (as := [.long (k_only sq), .int (nI (q i).2.2.2.1)]) (rest := []) (m_EX_warm E N xs) hM rfl kw_X0_73 rfl rfl (hU9) ⟨_, rfl, rfl⟩ (u_put hk2 hU9 hA9) rfl (Nat.le_of_ble_eq_true rfl) (Nat.le_of_ble_eq_true rfl) (Nat.le_of_ble_eq_true rfl) (fun ht => ⟨ht, by simp⟩) ?_
        refine m_J_run hM 2 rfl ⟨trivial, trivial, trivial⟩ ?_
        exact hk _
  have loop : ∀ (n i : Nat) (v4 : Option Value), i + n = 60 → m_J l (m_EX E N xs) E mM_X0_growInto (d + 3) 0 0 (m_K none (h.set b2 (k_la 5 (k_g60 q f (k_upto f g 5) m 60))) tg) m_no tg 0 0 (10, [some (.ref bk), some (.ref a2), some (.ref a), some (.int (nI i)), v4], [], h.set b2 (k_la 5 (k_g60 q f (k_upto f g 5) m i))) := by
    intro n
    induction n with
    | zero =>
      intro i v4 hi
      have e : i = 60 := by omega
      subst e
      refine m_J_run hM 3 rfl ⟨trivial, trivial, trivial, trivial⟩ ?_
      refine m_J_if (fun _ => ?_) (fun hc => absurd (by decide) hc)
      exact m_vret hM rfl rfl (Nat.le_of_ble_eq_true rfl) (Nat.le_of_ble_eq_true rfl) (rfl)
    | succ n ih =>
      intro i v4 hi
      refine m_J_run hM 3 rfl ⟨trivial, trivial, trivial, trivial⟩ ?_
      refine m_J_if (fun hc => absurd hc (nI_ge (by omega) (by omega))) (fun _ => ?_)
      refine m_J_run hM 2 rfl ⟨trivial, trivial, trivial⟩ ?_
      refine inner i (by omega) (k_g60 q f (k_upto f g 5) m i) _ (k_BK_set hB hA) (k_LD_set hL hA hne) (k_sn hab hU) (k_ss hA) _ m 0 (by omega) (fun v4 => ?_)
      rw [k_s2]
      refine m_J_run hM 2 rfl ⟨trivial, trivial, trivial⟩ ?_
      refine m_eqS (ih (i + 1) v4 (by omega)) ?_
      rw [k_succ i]
      rfl
  exact loop 60 0 none rfl
end
end
section
/-! SEARCH: all ways to give uses to the free squares -/
def k_ishr (x : Int32) (n : Nat) : Int32 := (x.toUInt32 >>> ((nI n).toUInt32 &&& Int32.toUInt32 31)).toInt32
def k_ip1 (x : Int32) : Int32 := x - (k_ishr x 1 &&& 1431655765)
def k_ip2 (x : Int32) : Int32 := (x &&& 858993459) + (k_ishr x 2 &&& 858993459)
def k_ip3 (x : Int32) : Int32 := (x + k_ishr x 4) &&& 252645135
def k_ips (n : Nat) (x : Int32) : Int32 := x + k_ishr x n
def k_ipc (x : Int32) : Int32 := k_ips 16 (k_ips 8 (k_ip3 (k_ip2 (k_ip1 x)))) &&& nI 63
/-- found, its worth, its uses, the worths by breaking one law -/
abbrev kS : Type := Bool × Int32 × (Nat → Int64) × (Nat → Int32)
def k_jw (wo br : Int32) (W : Nat → Int32) : Nat → Nat → Int32
  | 0 => W
  | n + 1 => if br = nI 1 <<< (nI n &&& 31) then upd (k_jw wo br W n) n (if k_jw wo br W n n < wo then wo else k_jw wo br W n n) else k_jw wo br W n
def k_jd (F : Nat → Int64) (wo br : Int32) (S : kS) : kS :=
  if br = 0 ∧ (S.1 = false ∨ ¬ wo ≤ S.2.1) then (true, wo, k_upto F S.2.2.1 5, k_jw wo br S.2.2.2 14) else (S.1, S.2.1, S.2.2.1, k_jw wo br S.2.2.2 14)
def k_pf (q : Nat → kL) (m : Nat) (so : Nat → Int32) (sqs : Nat → Nat) (cnt : Nat) : Nat → Int32 → Int32 → ((Nat → Int64) × kS) → ((Nat → Int64) × kS)
  | 0, wo, br, S => if k_ipc br ≤ nI 1 then (S.1, k_jd S.1 wo (br ||| k_bits (fun i => k_bw (q i) S.1) m) S.2) else S
  | n + 1, wo, br, S => if k_ipc br ≤ nI 1 then
      (let one := fun (v : Nat) (S : (Nat → Int64) × kS) =>
        let R := k_pf q m so sqs cnt n (wo + k_sum (fun i => k_lwp (q i) S.1 so (sqs (cnt - (n + 1))) v) m) (br ||| k_bits (fun i => k_bpp (q i) S.1 (sqs (cnt - (n + 1))) v) m) (k_put S.1 (k_only (sqs (cnt - (n + 1)))) v, S.2)
        (k_lift R.1 (k_only (sqs (cnt - (n + 1)))), R.2)
      one 4 (one 3 (one 2 (one 1 S)))) else S
/-- nothing but these places has changed -/
def k_fr (A : List Nat) (h H : mH) : Prop := H.length = h.length ∧ ∀ k, k ∉ A → H[k]? = h[k]?
theorem k_fr_r (A : List Nat) (h : mH) : k_fr A h h := ⟨rfl, fun _ _ => rfl⟩
theorem k_fr_t {A : List Nat} {h H K : mH} (h1 : k_fr A h H) (h2 : k_fr A H K) : k_fr A h K := ⟨h2.1.trans h1.1, fun k hk => (h2.2 k hk).trans (h1.2 k hk)⟩
theorem k_fr_s {A : List Nat} {h H : mH} {k : Nat} {c : va_E} (h1 : k_fr A h H) (hk : k ∈ A) : k_fr A h (H.set k c) := ⟨by rw [List.length_set]; exact h1.1, fun j hj => by rw [List.getElem?_set_ne (show k ≠ j from fun e => hj (by rw [← e]; exact hk))]; exact h1.2 j hj⟩
abbrev k_so (tl sqa bu wb bk cnt : Nat) (fd : Bool) (bw : Int32) : va_E := .inr (4, [.ref tl, .ref sqa, .ref bu, .ref wb, .ref bk, .int (nI cnt), .int (k_z fd), .int bw])
/-- the search's cells -/
def k_SR (H : mH) (z tl tu tb s r : Nat) (w : Nat → Nat) (so : Nat → Int32) (sqa : Nat) (sqs : Nat → Nat) (cnt bu bb wb : Nat) (bk rw : Nat) (ad : Nat → Nat) (m : Nat) (q : Nat → kL) (F : Nat → Int64) (S : kS) : Prop :=
  H[z]? = some (k_so tl sqa bu wb bk cnt S.1 S.2.1) ∧ k_LD H tl tu tb s r w F so ∧ H[sqa]? = some (k_ia 5 (fun i => nI (sqs i))) ∧ H[bu]? = some (k_uses bb) ∧ H[bb]? = some (k_la 5 S.2.2.1) ∧ H[wb]? = some (k_ia 14 S.2.2.2) ∧ k_BK H bk rw ad m q ∧ tb ≠ bb ∧ wb ≠ sqa ∧ wb ≠ s
theorem k_LD_self {h : mH} {a u b s r : Nat} {w : Nat → Nat} {f g : Nat → Int64} {so : Nat → Int32} (hL : k_LD h a u b s r w f so) : k_LD (h.set b (k_la 5 g)) a u b s r w g so := by
  obtain ⟨h1, h2, h3, h4, h5, h6⟩ := hL
  exact ⟨k_sn (k_ne h1 h3) h1, k_sn (k_ne h2 h3) h2, k_ss h3, k_sn (k_neT h4 h3 (by simp)) h4, k_sn (k_neT h5 h3 (by simp)) h5, fun i hi => k_sn (k_neT (h6 i hi) h3 (by simp)) (h6 i hi)⟩
theorem k_LD_int {h : mH} {a u b s r : Nat} {w : Nat → Nat} {f : Nat → Int64} {so : Nat → Int32} {b2 n : Nat} {g : Nat → Int32} {z : va_E} (hL : k_LD h a u b s r w f so) (h2 : h[b2]? = some (k_ia n g)) (hne : s ≠ b2) : k_LD (h.set b2 z) a u b s r w f so := by
  obtain ⟨h1, h2', h3, h4, h5, h6⟩ := hL
  exact ⟨k_sn (k_ne h1 h2) h1, k_sn (k_ne h2' h2) h2', k_sn (k_neT h3 h2 (by simp)) h3, k_sn hne h4, k_sn (k_neT h5 h2 (by simp)) h5, fun i hi => k_sn (k_neT (h6 i hi) h2 (by simp)) (h6 i hi)⟩
theorem k_BK_int {h : mH} {a rw : Nat} {ad : Nat → Nat} {n : Nat} {q : Nat → kL} {b2 k : Nat} {g : Nat → Int32} {z : va_E} (hB : k_BK h a rw ad n q) (h2 : h[b2]? = some (k_ia k g)) : k_BK (h.set b2 z) a rw ad n q := by
  obtain ⟨h1, h2', h3, h4⟩ := hB
  exact ⟨k_sn (k_ne h1 h2) h1, k_sn (k_neT h2' h2 (by simp)) h2', fun i hi => k_sn (k_ne (h3 i hi) h2) (h3 i hi), h4⟩
theorem k_neO {h : mH} {a b : Nat} {c c' : Nat} {x x' : List Value} (ha : h[a]? = some (.inr (c, x))) (hb : h[b]? = some (.inr (c', x'))) (hne : c ≠ c') : a ≠ b := by
  intro e
  subst e
  rw [ha] at hb
  cases hb
  exact hne rfl
theorem k_LD_obj {h : mH} {a u b s r : Nat} {w : Nat → Nat} {f : Nat → Int64} {so : Nat → Int32} {b2 : Nat} {fs : List Value} {z : va_E} (hL : k_LD h a u b s r w f so) (h2 : h[b2]? = some (.inr (4, fs))) : k_LD (h.set b2 z) a u b s r w f so := by
  obtain ⟨h1, h2', h3, h4, h5, h6⟩ := hL
  exact ⟨k_sn (k_neO h1 h2 (by simp)) h1, k_sn (k_neO h2' h2 (by simp)) h2', k_sn (Ne.symm (k_ne h2 h3)) h3, k_sn (Ne.symm (k_ne h2 h4)) h4, k_sn (Ne.symm (k_ne h2 h5)) h5, fun i hi => k_sn (Ne.symm (k_ne h2 (h6 i hi))) (h6 i hi)⟩
theorem k_BK_obj {h : mH} {a rw : Nat} {ad : Nat → Nat} {n : Nat} {q : Nat → kL} {b2 : Nat} {fs : List Value} {z : va_E} (hB : k_BK h a rw ad n q) (h2 : h[b2]? = some (.inr (4, fs))) : k_BK (h.set b2 z) a rw ad n q := by
  obtain ⟨h1, h2', h3, h4⟩ := hB
  exact ⟨k_sn (k_neO h1 h2 (by simp)) h1, k_sn (Ne.symm (k_ne h2 h2')) h2', fun i hi => k_sn (k_neO (h3 i hi) h2 (by simp)) (h3 i hi), h4⟩
section
variable {l : Launch} {E : mE} {N : Nat} {xs : Nat → Int32} {d : Nat} {tg : Bool} {h : mH} {z tl tu tb s r : Nat} {w : Nat → Nat} {so : Nat → Int32} {sqa : Nat} {sqs : Nat → Nat} {cnt bu bb wb bk rw : Nat} {ad : Nat → Nat} {m : Nat} {q : Nat → kL}
theorem s_ipc (x : Int32) : m_Dt l (m_EX E N xs) E mM_J6_bitCount_0f7a4 d 0 0 [.int x] h tg (some (.int (k_ipc x))) h tg := by
  have hM := mM_J6_bitCount_0f7a4_ok
  refine m_Sp_of (by decide) (Nat.le_of_ble_eq_true rfl) ?_
  refine m_J_run hM 8 rfl ⟨trivial, trivial, trivial, trivial, trivial, trivial, trivial, trivial, trivial⟩ ?_
  refine m_J_run hM 10 rfl ⟨trivial, trivial, trivial, trivial, trivial, trivial, trivial, trivial, trivial, trivial, trivial⟩ ?_
  refine m_J_run hM 8 rfl ⟨trivial, trivial, trivial, trivial, trivial, trivial, trivial, trivial, trivial⟩ ?_
  refine m_J_run hM 12 rfl ⟨trivial, trivial, trivial, trivial, trivial, trivial, trivial, trivial, trivial, trivial, trivial, trivial, trivial⟩ ?_
  refine m_J_run hM 3 rfl ⟨trivial, trivial, trivial, trivial⟩ ?_
  exact m_iret hM rfl rfl rfl (Nat.le_of_ble_eq_true rfl) (Nat.le_of_ble_eq_true rfl) (rfl) (rfl)
theorem k_SR_T {H : mH} {F G : Nat → Int64} {S : kS} (hR : k_SR H z tl tu tb s r w so sqa sqs cnt bu bb wb bk rw ad m q F S) : k_SR (H.set tb (k_la 5 G)) z tl tu tb s r w so sqa sqs cnt bu bb wb bk rw ad m q G S := by
  obtain ⟨h1, h2, h3, h4, h5, h6, h7, h8, h9, h10⟩ := hR
  have ht := h2.2.2.1
  exact ⟨k_sn (k_ne h1 ht) h1, k_LD_self h2, k_sn (k_neT h3 ht (by simp)) h3, k_sn (k_ne h4 ht) h4, k_sn (Ne.symm h8) h5, k_sn (k_neT h6 ht (by simp)) h6, k_BK_set h7 ht, h8, h9, h10⟩
theorem k_SR_B {H : mH} {F G : Nat → Int64} {S : kS} (hR : k_SR H z tl tu tb s r w so sqa sqs cnt bu bb wb bk rw ad m q F S) : k_SR (H.set bb (k_la 5 G)) z tl tu tb s r w so sqa sqs cnt bu bb wb bk rw ad m q F (S.1, S.2.1, G, S.2.2.2) := by
  obtain ⟨h1, h2, h3, h4, h5, h6, h7, h8, h9, h10⟩ := hR
  exact ⟨k_sn (k_ne h1 h5) h1, k_LD_set h2 h5 h8, k_sn (k_neT h3 h5 (by simp)) h3, k_sn (k_ne h4 h5) h4, k_ss h5, k_sn (k_neT h6 h5 (by simp)) h6, k_BK_set h7 h5, h8, h9, h10⟩
theorem k_SR_W {H : mH} {F : Nat → Int64} {G : Nat → Int32} {S : kS} (hR : k_SR H z tl tu tb s r w so sqa sqs cnt bu bb wb bk rw ad m q F S) : k_SR (H.set wb (k_ia 14 G)) z tl tu tb s r w so sqa sqs cnt bu bb wb bk rw ad m q F (S.1, S.2.1, S.2.2.1, G) := by
  obtain ⟨h1, h2, h3, h4, h5, h6, h7, h8, h9, h10⟩ := hR
  exact ⟨k_sn (k_ne h1 h6) h1, k_LD_int h2 h6 (Ne.symm h10), k_sn (Ne.symm h9) h3, k_sn (k_ne h4 h6) h4, k_sn (k_neT h5 h6 (by simp)) h5, k_ss h6, k_BK_int h7 h6, h8, h9, h10⟩
theorem k_SR_Z {H : mH} {F : Nat → Int64} {fd : Bool} {bw : Int32} {S : kS} (hR : k_SR H z tl tu tb s r w so sqa sqs cnt bu bb wb bk rw ad m q F S) : k_SR (H.set z (k_so tl sqa bu wb bk cnt fd bw)) z tl tu tb s r w so sqa sqs cnt bu bb wb bk rw ad m q F (fd, bw, S.2.2) := by
  obtain ⟨h1, h2, h3, h4, h5, h6, h7, h8, h9, h10⟩ := hR
  exact ⟨k_ss h1, k_LD_obj h2 h1, k_sn (Ne.symm (k_ne h1 h3)) h3, k_sn (k_neO h4 h1 (by simp)) h4, k_sn (Ne.symm (k_ne h1 h5)) h5, k_sn (Ne.symm (k_ne h1 h6)) h6, k_BK_obj h7 h1, h8, h9, h10⟩
theorem k_z_boo (b : Bool) : m_fit .boolean (.int (k_z b)) = true := by cases b <;> decide
set_option maxHeartbeats 1000000 in
theorem r_judge {F : Nat → Int64} {S : kS} {wo br : Int32} (hR : k_SR h z tl tu tb s r w so sqa sqs cnt bu bb wb bk rw ad m q F S) : m_Sp l (m_EX E N xs) E mM_X4_judge (d + 1) 0 0 [.ref z, .int wo, .int br] h tg (fun v H tg' => v = none ∧ tg' = tg ∧ k_SR H z tl tu tb s r w so sqa sqs cnt bu bb wb bk rw ad m q F (k_jd F wo br S) ∧ k_fr [z, tb, bb, wb] h H) m_no := by
  have hM := mM_X4_judge_ok
  refine m_Sp_of (by decide) (Nat.le_of_ble_eq_true rfl) ?_
  -- the second half: what each law's breaking is worth
  have half : ∀ (H : mH) (T : kS), k_SR H z tl tu tb s r w so sqa sqs cnt bu bb wb bk rw ad m q F T → k_fr [z, tb, bb, wb] h H → k_jd F wo br S = (T.1, T.2.1, T.2.2.1, k_jw wo br T.2.2.2 14) → m_J l (m_EX E N xs) E mM_X4_judge (d + 1) 0 0 (fun v H tg' => v = none ∧ tg' = tg ∧ k_SR H z tl tu tb s r w so sqa sqs cnt bu bb wb bk rw ad m q F (k_jd F wo br S) ∧ k_fr [z, tb, bb, wb] h H) m_no tg 0 0 (43, [some (.ref z), some (.int wo), some (.int br), none], [], H) := by
    intro H T hT hF he
    refine m_J_run hM 2 rfl ⟨trivial, trivial, trivial⟩ ?_
    have loop : ∀ (n i : Nat), i + n = 14 → m_J l (m_EX E N xs) E mM_X4_judge (d + 1) 0 0 (fun v H tg' => v = none ∧ tg' = tg ∧ k_SR H z tl tu tb s r w so sqa sqs cnt bu bb wb bk rw ad m q F (k_jd F wo br S) ∧ k_fr [z, tb, bb, wb] h H) m_no tg 0 0 (45, [some (.ref z), some (.int wo), some (.int br), some (.int (nI i))], [], H.set wb (k_ia 14 (k_jw wo br T.2.2.2 i))) := by
      intro n
      induction n with
      | zero =>
        intro i hi
        have e : i = 14 := by omega
        subst e
        refine m_J_run hM 3 rfl ⟨trivial, trivial, trivial, trivial⟩ ?_
        refine m_J_if (fun _ => ?_) (fun hc => absurd (by decide) hc)
        refine m_J_vret hM rfl rfl (Nat.le_refl _) (Nat.le_refl _) ⟨rfl, rfl, ?_, k_fr_s hF (by simp)⟩
        rw [he]
        exact k_SR_W hT
      | succ n ih =>
        intro i hi
        have hT2 := k_SR_W (G := k_jw wo br T.2.2.2 i) hT
        obtain ⟨h1, h2, h3, h4, h5, h6, h7, h8, h9, h10⟩ := hT2
        refine m_J_run hM 3 rfl ⟨trivial, trivial, trivial, trivial⟩ ?_
        refine m_J_if (fun hc => absurd hc (nI_ge (by omega) (by omega))) (fun _ => ?_)
        refine m_J_run hM 5 rfl ⟨trivial, trivial, trivial, trivial, trivial, trivial⟩ ?_
        refine m_J_if (fun hc => ?_) (fun hc => ?_)
        · refine m_J_run hM 2 rfl ⟨trivial, trivial, trivial⟩ ?_
          refine m_eqS (ih (i + 1) (by omega)) ?_
          rw [k_succ i, k_jw, if_neg hc]
          rfl
        · have hc2 := Classical.not_not.mp hc
          refine m_J_run hM 1 rfl ⟨trivial, trivial⟩ ?_
          refine m_J_getf hM rfl rfl (h1) (rfl) ?_
          refine m_J_run hM 2 rfl ⟨trivial, trivial, trivial⟩ ?_
          refine m_J_getf hM rfl rfl (h1) (rfl) ?_
          refine m_J_run hM 1 rfl ⟨trivial, trivial⟩ ?_
          refine m_ialdN hM rfl (h6) (by omega) (by omega) ?_
          refine m_J_run hM 1 rfl ⟨trivial, trivial⟩ ?_
          refine m_max hM rfl kw_X4_111 (Nat.le_of_ble_eq_true rfl) (Nat.le_of_ble_eq_true rfl) (Nat.le_of_ble_eq_true rfl) ?_
          refine m_iastN hM rfl (h6) (by omega) (by omega) ?_
          rw [k_s2]
          refine m_J_run hM 2 rfl ⟨trivial, trivial, trivial⟩ ?_
          refine m_eqS (ih (i + 1) (by omega)) ?_
          rw [k_succ i, k_jw, if_pos hc2]
          rfl
    have h0 := loop 14 0 rfl
    rw [show k_jw wo br T.2.2.2 0 = T.2.2.2 from rfl, k_s0 hT.2.2.2.2.2.1] at h0
    exact h0
  obtain ⟨h1, h2, h3, h4, h5, h6, h7, h8, h9, h10⟩ := id hR
  have no : ¬ (br = 0 ∧ (S.1 = false ∨ ¬ wo ≤ S.2.1)) → k_jd F wo br S = (S.1, S.2.1, S.2.2.1, k_jw wo br S.2.2.2 14) := fun hn => by unfold k_jd; rw [if_neg hn]
  -- the first half: a better one
  have better : br = 0 ∧ (S.1 = false ∨ ¬ wo ≤ S.2.1) → m_J l (m_EX E N xs) E mM_X4_judge (d + 1) 0 0 (fun v H tg' => v = none ∧ tg' = tg ∧ k_SR H z tl tu tb s r w so sqa sqs cnt bu bb wb bk rw ad m q F (k_jd F wo br S) ∧ k_fr [z, tb, bb, wb] h H) m_no tg 0 0 (19, [some (.ref z), some (.int wo), some (.int br), none], [], h) := by
    intro hy
    refine m_J_run hM 2 rfl ⟨trivial, trivial, trivial⟩ ?_
    refine m_J_putf hM rfl rfl (h1) (rfl) ?_
    refine m_J_run hM 2 rfl ⟨trivial, trivial, trivial⟩ ?_
    refine m_J_putf hM rfl rfl (k_ss h1) rfl ?_
    rw [k_s2]
    have hZ := k_SR_Z (fd := true) (bw := wo) hR
    have hFr : k_fr [z, tb, bb, wb] h (h.set z (k_so tl sqa bu wb bk cnt true wo)) := k_fr_s (k_fr_r _ h) (by simp)
    show m_J _ _ _ _ _ _ _ _ _ _ _ _ (_, _, _, h.set z (k_so tl sqa bu wb bk cnt true wo))
    generalize h.set z (k_so tl sqa bu wb bk cnt true wo) = H at hZ hFr ⊢
    obtain ⟨h1, h2, h3, h4, h5, h6, h7, h8, h9, h10⟩ := id hZ
    refine m_J_run hM 1 rfl ⟨trivial, trivial⟩ ?_
    refine m_J_getf hM rfl rfl (h1) (rfl) ?_
    refine m_J_run hM 1 rfl ⟨trivial, trivial⟩ ?_
    refine m_J_getf hM rfl rfl (h1) (rfl) ?_
    refine m_J_getf hM rfl rfl (h2.1) (rfl) ?_
    refine m_callV (as := [.ref tu]) (rest := []) (m_EX_warm E N xs) hM rfl kw_X4_59 rfl rfl (h4) ⟨_, rfl, rfl⟩ (u_become h4 h5 h2.2.1 h2.2.2.1 h8) rfl (Nat.le_of_ble_eq_true rfl) (Nat.le_of_ble_eq_true rfl) (Nat.le_of_ble_eq_true rfl) (fun ht => ⟨ht, by simp⟩) ?_
    exact half _ _ (k_SR_B hZ) (k_fr_s hFr (by simp)) (by unfold k_jd; rw [if_pos hy])
  refine m_J_run hM 2 rfl ⟨trivial, trivial, trivial⟩ ?_
  refine m_J_if (fun hc => ?_) (fun hc => ?_)
  · exact half h S hR (k_fr_r _ h) (no (fun q => hc q.1))
  · have hb0 : br = 0 := Classical.not_not.mp hc
    refine m_J_run hM 1 rfl ⟨trivial, trivial⟩ ?_
    refine m_J_getf hM rfl rfl (h1) (rfl) ?_
    refine m_J_run hM 1 rfl ⟨trivial, trivial⟩ ?_
    refine m_J_if (fun hc2 => ?_) (fun hc2 => ?_)
    · exact better ⟨hb0, Or.inl (k_z0 hc2)⟩
    · have hf := k_z1 hc2
      refine m_J_run hM 2 rfl ⟨trivial, trivial, trivial⟩ ?_
      refine m_J_getf hM rfl rfl (h1) (rfl) ?_
      refine m_J_run hM 1 rfl ⟨trivial, trivial⟩ ?_
      refine m_J_if (fun hc3 => ?_) (fun hc3 => ?_)
      · exact half h S hR (k_fr_r _ h) (no (fun q => by rcases q.2 with q | q; (rw [hf] at q; cases q); exact q hc3))
      · exact better ⟨hb0, Or.inr hc3⟩
end
end
section
/-! SEARCH: putFrom, listSquares, run -/
section
variable {l : Launch} {E : mE} {N : Nat} {xs : Nat → Int32} {d : Nat} {tg : Bool} {h : mH} {z tl tu tb s r : Nat} {w : Nat → Nat} {so : Nat → Int32} {sqa : Nat} {sqs : Nat → Nat} {cnt bu bb wb bk rw : Nat} {ad : Nat → Nat} {m : Nat} {q : Nat → kL}
theorem k_pf_0 (wo br : Int32) (S : (Nat → Int64) × kS) : k_pf q m so sqs cnt 0 wo br S = if k_ipc br ≤ nI 1 then (S.1, k_jd S.1 wo (br ||| k_bits (fun i => k_bw (q i) S.1) m) S.2) else S := rfl
def k_one (q : Nat → kL) (m : Nat) (so : Nat → Int32) (sqs : Nat → Nat) (cnt n : Nat) (wo br : Int32) (v : Nat) (S : (Nat → Int64) × kS) : (Nat → Int64) × kS :=
  (k_lift (k_pf q m so sqs cnt n (wo + k_sum (fun i => k_lwp (q i) S.1 so (sqs (cnt - (n + 1))) v) m) (br ||| k_bits (fun i => k_bpp (q i) S.1 (sqs (cnt - (n + 1))) v) m) (k_put S.1 (k_only (sqs (cnt - (n + 1)))) v, S.2)).1 (k_only (sqs (cnt - (n + 1)))),
    (k_pf q m so sqs cnt n (wo + k_sum (fun i => k_lwp (q i) S.1 so (sqs (cnt - (n + 1))) v) m) (br ||| k_bits (fun i => k_bpp (q i) S.1 (sqs (cnt - (n + 1))) v) m) (k_put S.1 (k_only (sqs (cnt - (n + 1)))) v, S.2)).2)
def k_ones (q : Nat → kL) (m : Nat) (so : Nat → Int32) (sqs : Nat → Nat) (cnt n : Nat) (wo br : Int32) (S : (Nat → Int64) × kS) : Nat → (Nat → Int64) × kS
  | 0 => S
  | v + 1 => k_one q m so sqs cnt n wo br (v + 1) (k_ones q m so sqs cnt n wo br S v)
theorem k_pf_s (n : Nat) (wo br : Int32) (S : (Nat → Int64) × kS) : k_pf q m so sqs cnt (n + 1) wo br S = if k_ipc br ≤ nI 1 then k_ones q m so sqs cnt n wo br S 4 else S := rfl
set_option maxHeartbeats 2000000 in
theorem r_put (hcnt : cnt ≤ 5) (hsq : ∀ i, i < cnt → sqs i < 60) : ∀ (n : Nat) (d : Nat) (h : mH) (F : Nat → Int64) (S : kS) (wo br : Int32), n ≤ cnt → k_SR h z tl tu tb s r w so sqa sqs cnt bu bb wb bk rw ad m q F S →
    m_Sp l (m_EX E N xs) E mM_X4_putFrom (d + n + 4) 0 0 [.ref z, .int (nI (cnt - n)), .int wo, .int br] h tg (fun v H tg' => v = none ∧ tg' = tg ∧ k_SR H z tl tu tb s r w so sqa sqs cnt bu bb wb bk rw ad m q (k_pf q m so sqs cnt n wo br (F, S)).1 (k_pf q m so sqs cnt n wo br (F, S)).2 ∧ k_fr [z, tb, bb, wb] h H) m_no := by
  have hM := mM_X4_putFrom_ok
  intro n
  induction n with
  | zero =>
    intro d h F S wo br hn hR
    obtain ⟨h1, h2, h3, h4, h5, h6, h7, h8, h9, h10⟩ := id hR
    rw [k_pf_0]
    refine m_Sp_of (by decide) (Nat.le_of_ble_eq_true rfl) ?_
    refine m_J_run hM 1 rfl ⟨trivial, trivial⟩ ?_
    refine m_callS (as := [.int br]) (rest := []) (m_EX_warm E N xs) hM rfl kw_X4_85 rfl (s_ipc br) rfl (Nat.le_of_ble_eq_true rfl) (Nat.le_of_ble_eq_true rfl) (Nat.le_of_ble_eq_true rfl) (fun ht => ⟨ht, Nat.le_refl _⟩) ?_
    refine m_J_run hM 2 rfl ⟨trivial, trivial, trivial⟩ ?_
    refine m_J_if (fun hc => ?_) (fun hc => ?_)
    · rw [if_pos hc]
      refine m_J_run hM 2 rfl ⟨trivial, trivial, trivial⟩ ?_
      refine m_J_getf hM rfl rfl (h1) (rfl) ?_
      refine m_J_run hM 1 rfl ⟨trivial, trivial⟩ ?_
      refine m_J_if (fun hc => absurd hc (nI_nlt (by omega) (by omega))) (fun _ => ?_)
      refine m_J_run hM 4 rfl ⟨trivial, trivial, trivial, trivial, trivial⟩ ?_
      refine m_J_getf hM rfl rfl (h1) (rfl) ?_
      refine m_J_run hM 1 rfl ⟨trivial, trivial⟩ ?_
      refine m_J_getf hM rfl rfl (h1) (rfl) ?_
      refine m_callV (as := [.ref tl]) (rest := [.int br, .int wo, .ref z]) (m_EX_warm E N xs) hM rfl kw_X4_89 rfl rfl (h7.1) ⟨_, rfl, rfl⟩ (b_whole h7 h2) rfl (Nat.le_of_ble_eq_true rfl) (Nat.le_of_ble_eq_true rfl) (Nat.le_of_ble_eq_true rfl) (fun ht => ⟨ht, by simp⟩) ?_
      refine m_J_run hM 1 rfl ⟨trivial, trivial⟩ ?_
      refine m_J_callV (as := [.int wo, .int (br ||| k_bits (fun i => k_bw (q i) F) m)]) (rest := []) (m_EX_warm E N xs) hM rfl kw_X4_92 rfl rfl rfl h1 ⟨_, rfl, rfl⟩ (Nat.le_of_ble_eq_true rfl) (Nat.le_of_ble_eq_true rfl) (Nat.le_of_ble_eq_true rfl) (r_judge hR) (fun v' h' tg' hp => ?_) (fun nm h' hp => hp.elim)
      obtain ⟨rfl, rfl, hp1, hp2⟩ := hp
      refine ⟨fun ht => ⟨ht, by rw [hp2.1]; exact Nat.le_refl _⟩, ?_⟩
      exact m_J_vret hM rfl rfl (Nat.le_refl _) (Nat.le_refl _) ⟨rfl, rfl, hp1, hp2⟩
    · rw [if_neg hc]
      exact m_J_vret hM rfl rfl (Nat.le_refl _) (Nat.le_refl _) ⟨rfl, rfl, hR, k_fr_r _ h⟩
  | succ n ih =>
    intro d h F S wo br hn hR
    obtain ⟨h1, h2, h3, h4, h5, h6, h7, h8, h9, h10⟩ := id hR
    rw [k_pf_s]
    have hs6 := hsq (cnt - (n + 1)) (by omega)
    refine m_Sp_of (by decide) (Nat.le_of_ble_eq_true rfl) ?_
    refine m_J_run hM 1 rfl ⟨trivial, trivial⟩ ?_
    refine m_callS (as := [.int br]) (rest := []) (m_EX_warm E N xs) hM rfl kw_X4_85 rfl (s_ipc br) rfl (Nat.le_of_ble_eq_true rfl) (Nat.le_of_ble_eq_true rfl) (Nat.le_of_ble_eq_true rfl) (fun ht => ⟨ht, Nat.le_refl _⟩) ?_
    refine m_J_run hM 2 rfl ⟨trivial, trivial, trivial⟩ ?_
    refine m_J_if (fun hc => ?_) (fun hc => ?_)
    · rw [if_pos hc]
      refine m_J_run hM 2 rfl ⟨trivial, trivial, trivial⟩ ?_
      refine m_J_getf hM rfl rfl (h1) (rfl) ?_
      refine m_J_run hM 1 rfl ⟨trivial, trivial⟩ ?_
      refine m_J_if (fun _ => ?_) (fun hc => absurd (nI_lt (by omega) (by omega)) hc)
      refine m_J_run hM 1 rfl ⟨trivial, trivial⟩ ?_
      refine m_J_getf hM rfl rfl (h1) (rfl) ?_
      refine m_J_run hM 1 rfl ⟨trivial, trivial⟩ ?_
      refine m_ialdN hM rfl (h3) (by omega) (by omega) ?_
      refine m_J_run hM 3 rfl ⟨trivial, trivial, trivial, trivial⟩ ?_
      have loop : ∀ (k v : Nat) (l6 l7 : Option Value) (H : mH), v + k = 4 → k_SR H z tl tu tb s r w so sqa sqs cnt bu bb wb bk rw ad m q (k_ones q m so sqs cnt n wo br (F, S) v).1 (k_ones q m so sqs cnt n wo br (F, S) v).2 → k_fr [z, tb, bb, wb] h H →
          m_J l (m_EX E N xs) E mM_X4_putFrom (d + (n + 1) + 4) 0 0 (fun v H tg' => v = none ∧ tg' = tg ∧ k_SR H z tl tu tb s r w so sqa sqs cnt bu bb wb bk rw ad m q (k_ones q m so sqs cnt n wo br (F, S) 4).1 (k_ones q m so sqs cnt n wo br (F, S) 4).2 ∧ k_fr [z, tb, bb, wb] h H) m_no tg 0 0 (47, [some (.ref z), some (.int (nI (cnt - (n + 1)))), some (.int wo), some (.int br), some (.int (nI (sqs (cnt - (n + 1))))), some (.int (nI (v + 1))), l6, l7], [], H) := by
        intro k
        induction k with
        | zero =>
          intro v l6 l7 H hv hR hF
          have e : v = 4 := by omega
          subst e
          refine m_J_run hM 3 rfl ⟨trivial, trivial, trivial, trivial⟩ ?_
          refine m_J_if (fun _ => ?_) (fun hc => absurd (by decide) hc)
          exact m_J_vret hM rfl rfl (Nat.le_refl _) (Nat.le_refl _) ⟨rfl, rfl, hR, hF⟩
        | succ k ih2 =>
          intro v l6 l7 H hv hR hF
          obtain ⟨h1, h2, h3, h4, h5, h6, h7, h8, h9, h10⟩ := id hR
          have hout : k_ones q m so sqs cnt n wo br (F, S) (v + 1) = k_one q m so sqs cnt n wo br (v + 1) (k_ones q m so sqs cnt n wo br (F, S) v) := rfl
          generalize k_ones q m so sqs cnt n wo br (F, S) v = T at *
          obtain ⟨G, T⟩ := T
          dsimp only at hR h1 h2 h5 h6
          refine m_J_run hM 3 rfl ⟨trivial, trivial, trivial, trivial⟩ ?_
          refine m_J_if (fun hc => absurd hc (nI_nlt (by omega) (by omega))) (fun _ => ?_)
          refine m_J_run hM 1 rfl ⟨trivial, trivial⟩ ?_
          refine m_J_getf hM rfl rfl (h1) (rfl) ?_
          refine m_J_run hM 1 rfl ⟨trivial, trivial⟩ ?_
          refine m_J_getf hM rfl rfl (h1) (rfl) ?_
          refine m_J_run hM 2 rfl ⟨trivial, trivial, trivial⟩ ?_
          refine m_callV (as := [.ref tl, .int (nI (sqs (cnt - (n + 1)))), .int (nI (v + 1))]) (rest := []) (m_EX_warm E N xs) hM rfl kw_X4_96 rfl rfl (h7.1) ⟨_, rfl, rfl⟩ (b_worthPut hs6 (by omega) h7 h2) rfl (Nat.le_of_ble_eq_true rfl) (Nat.le_of_ble_eq_true rfl) (Nat.le_of_ble_eq_true rfl) (fun ht => ⟨ht, by simp⟩) ?_
          refine m_J_run hM 2 rfl ⟨trivial, trivial, trivial⟩ ?_
          refine m_J_getf hM rfl rfl (h1) (rfl) ?_
          refine m_J_run hM 1 rfl ⟨trivial, trivial⟩ ?_
          refine m_J_getf hM rfl rfl (h1) (rfl) ?_
          refine m_J_run hM 2 rfl ⟨trivial, trivial, trivial⟩ ?_
          refine m_callV (as := [.ref tl, .int (nI (sqs (cnt - (n + 1)))), .int (nI (v + 1))]) (rest := []) (m_EX_warm E N xs) hM rfl kw_X4_100 rfl rfl (h7.1) ⟨_, rfl, rfl⟩ (b_put hs6 (by omega) h7 h2) rfl (Nat.le_of_ble_eq_true rfl) (Nat.le_of_ble_eq_true rfl) (Nat.le_of_ble_eq_true rfl) (fun ht => ⟨ht, by simp⟩) ?_
          refine m_J_run hM 2 rfl ⟨trivial, trivial, trivial⟩ ?_
          refine m_J_getf hM rfl rfl (h1) (rfl) ?_
          refine m_J_getf hM rfl rfl (h2.1) (rfl) ?_
          refine m_J_run hM 1 rfl ⟨trivial, trivial⟩ ?_
          refine m_callS (as := [.int (nI (sqs (cnt - (n + 1))))]) (rest := [.ref tu]) (m_EX_warm E N xs) hM rfl kw_X4_103 rfl (s_only _) rfl (Nat.le_of_ble_eq_true rfl) (Nat.le_of_ble_eq_true rfl) (Nat.le_of_ble_eq_true rfl) (fun ht => ⟨ht, Nat.le_refl _⟩) ?_
          refine m_J_run hM 1 rfl ⟨trivial, trivial⟩ ?_
          refine m_callV (as := [.long (k_only (sqs (cnt - (n + 1)))), .int (nI (v + 1))]) (rest := []) (m_EX_warm E N xs) hM rfl kw_X4_107 rfl rfl (h2.2.1) ⟨_, rfl, rfl⟩ (u_put (by omega) h2.2.1 h2.2.2.1) rfl (Nat.le_of_ble_eq_true rfl) (Nat.le_of_ble_eq_true rfl) (Nat.le_of_ble_eq_true rfl) (fun ht => ⟨ht, by simp⟩) ?_
          refine m_J_run hM 11 rfl ⟨trivial, trivial, trivial, trivial, trivial, trivial, trivial, trivial, trivial, trivial, trivial, trivial⟩ ?_
          rw [nI_add, show cnt - (n + 1) + 1 = cnt - n by omega]
          have hR2 := k_SR_T (G := k_put G (k_only (sqs (cnt - (n + 1)))) (v + 1)) hR
          have hF2 : k_fr [z, tb, bb, wb] h (H.set tb (k_la 5 (k_put G (k_only (sqs (cnt - (n + 1)))) (v + 1)))) := k_fr_s hF (by simp)
          generalize H.set tb (k_la 5 (k_put G (k_only (sqs (cnt - (n + 1)))) (v + 1))) = H2 at hR2 hF2 ⊢
          refine m_J_callV (d := d + n + 4) (as := [.int (nI (cnt - n)), .int (wo + k_sum (fun i => k_lwp (q i) G so (sqs (cnt - (n + 1))) (v + 1)) m), .int (br ||| k_bits (fun i => k_bpp (q i) G (sqs (cnt - (n + 1))) (v + 1)) m)]) (rest := []) (m_EX_warm E N xs) hM rfl kw_X4_75 rfl rfl rfl hR2.1 ⟨_, rfl, rfl⟩ (Nat.le_of_ble_eq_true rfl) (Nat.le_of_ble_eq_true rfl) (Nat.le_of_ble_eq_true rfl) (ih d H2 _ _ _ _ (by omega) hR2) (fun v' h' tg' hp => ?_) (fun nm h' hp => hp.elim)
          obtain ⟨rfl, rfl, hp1, hp2⟩ := hp
          refine ⟨fun ht => ⟨ht, by rw [hp2.1]; exact Nat.le_refl _⟩, ?_⟩
          have hF3 := k_fr_t hF2 hp2
          obtain ⟨h1, h2, h3, h4, h5, h6, h7, h8, h9, h10⟩ := id hp1
          refine m_J_run hM 1 rfl ⟨trivial, trivial⟩ ?_
          refine m_J_getf hM rfl rfl (h1) (rfl) ?_
          refine m_J_getf hM rfl rfl (h2.1) (rfl) ?_
          refine m_J_run hM 1 rfl ⟨trivial, trivial⟩ ?_
          refine m_callS (as := [.int (nI (sqs (cnt - (n + 1))))]) (rest := [.ref tu]) (m_EX_warm E N xs) hM rfl kw_X4_103 rfl (s_only _) rfl (Nat.le_of_ble_eq_true rfl) (Nat.le_of_ble_eq_true rfl) (Nat.le_of_ble_eq_true rfl) (fun ht => ⟨ht, Nat.le_refl _⟩) ?_
          refine m_callV (as := [.long (k_only (sqs (cnt - (n + 1))))]) (rest := []) (m_EX_warm E N xs) hM rfl kw_X4_63 rfl rfl (h2.2.1) ⟨_, rfl, rfl⟩ (u_lift h2.2.1 h2.2.2.1) rfl (Nat.le_of_ble_eq_true rfl) (Nat.le_of_ble_eq_true rfl) (Nat.le_of_ble_eq_true rfl) (fun ht => ⟨ht, by simp⟩) ?_
          refine m_J_run hM 2 rfl ⟨trivial, trivial, trivial⟩ ?_
          refine m_eqS (ih2 (v + 1) (some (.int (k_sum (fun i => k_lwp (q i) G so (sqs (cnt - (n + 1))) (v + 1)) m))) (some (.int (k_bits (fun i => k_bpp (q i) G (sqs (cnt - (n + 1))) (v + 1)) m))) _ (by omega) (by rw [hout]; exact k_SR_T hp1) (k_fr_s hF3 (by simp))) ?_
          rw [k_succ (v + 1)]
          rfl
      exact loop 4 0 none none h rfl hR (k_fr_r _ h)
    · rw [if_neg hc]
      exact m_J_vret hM rfl rfl (Nat.le_refl _) (Nat.le_refl _) ⟨rfl, rfl, hR, k_fr_r _ h⟩
end
/-! listSquares and run -/
/-- the squares of a set, in their order: how many of the first n; which -/
def k_lc (x : Int64) : Nat → Nat
  | 0 => 0
  | n + 1 => if k_has x n = true ∧ k_lc x n < 5 then k_lc x n + 1 else k_lc x n
def k_lq (x : Int64) (g : Nat → Nat) : Nat → Nat → Nat
  | 0 => g
  | n + 1 => if k_has x n = true ∧ k_lc x n < 5 then (fun i => if i = k_lc x n then n else k_lq x g n i) else k_lq x g n
theorem k_lc_le (x : Int64) : ∀ n, k_lc x n ≤ 5 := by
  intro n
  induction n with
  | zero => simp [k_lc]
  | succ n ih =>
    rw [k_lc]
    split
    · rename_i hc; omega
    · exact ih
theorem k_lq_lt (x : Int64) (g : Nat → Nat) : ∀ n i, i < k_lc x n → k_lq x g n i < n := by
  intro n
  induction n with
  | zero => intro i hi; simp [k_lc] at hi
  | succ n ih =>
    intro i hi
    rw [k_lc] at hi
    rw [k_lq]
    split
    · rename_i hc
      rw [if_pos hc] at hi
      by_cases e : i = k_lc x n
      · simp [e]
      · have := ih i (by omega)
        simp [e]; omega
    · rename_i hc
      rw [if_neg hc] at hi
      have := ih i hi
      omega
section
variable {l : Launch} {E : mE} {N : Nat} {xs : Nat → Int32} {d : Nat} {tg : Bool} {h : mH} {z tl tu tb s r : Nat} {w : Nat → Nat} {so : Nat → Int32} {sqa : Nat} {sqs : Nat → Nat} {cnt bu bb wb bk rw : Nat} {ad : Nat → Nat} {m : Nat} {q : Nat → kL}
set_option maxHeartbeats 1000000 in
theorem r_list {x : Int64} {fd : Bool} {bw : Int32} (h1 : h[z]? = some (k_so tl sqa bu wb bk cnt fd bw)) (h3 : h[sqa]? = some (k_ia 5 (fun i => nI (sqs i)))) : m_Dt l (m_EX E N xs) E mM_X4_listSquares (d + 2) 0 0 [.ref z, .long x] h tg none ((h.set sqa (k_ia 5 (fun i => nI (k_lq x sqs 60 i)))).set z (k_so tl sqa bu wb bk (k_lc x 60) fd bw)) tg := by
  have hM := mM_X4_listSquares_ok
  have hzs := k_ne h1 h3
  refine m_Sp_of (by decide) (Nat.le_of_ble_eq_true rfl) ?_
  refine m_J_run hM 2 rfl ⟨trivial, trivial, trivial⟩ ?_
  refine m_J_putf hM rfl rfl (h1) (rfl) ?_
  refine m_J_run hM 2 rfl ⟨trivial, trivial, trivial⟩ ?_
  have loop : ∀ n i : Nat, i + n = 60 → m_J l (m_EX E N xs) E mM_X4_listSquares (d + 2) 0 0 (m_K none ((h.set sqa (k_ia 5 (fun i => nI (k_lq x sqs 60 i)))).set z (k_so tl sqa bu wb bk (k_lc x 60) fd bw)) tg) m_no tg 0 0 (7, [some (.ref z), some (.long x), none, some (.int (nI i))], [], (h.set sqa (k_ia 5 (fun j => nI (k_lq x sqs i j)))).set z (k_so tl sqa bu wb bk (k_lc x i) fd bw)) := by
    intro n
    induction n with
    | zero =>
      intro i hi
      have e : i = 60 := by omega
      subst e
      refine m_J_run hM 3 rfl ⟨trivial, trivial, trivial, trivial⟩ ?_
      refine m_J_if (fun _ => ?_) (fun hc => absurd (by decide) hc)
      exact m_vret hM rfl rfl (Nat.le_of_ble_eq_true rfl) (Nat.le_of_ble_eq_true rfl) (rfl)
    | succ n ih =>
      intro i hi
      have hz : ((h.set sqa (k_ia 5 (fun j => nI (k_lq x sqs i j)))).set z (k_so tl sqa bu wb bk (k_lc x i) fd bw))[z]? = some (k_so tl sqa bu wb bk (k_lc x i) fd bw) := k_ss (k_sn hzs h1)
      have hq : ((h.set sqa (k_ia 5 (fun j => nI (k_lq x sqs i j)))).set z (k_so tl sqa bu wb bk (k_lc x i) fd bw))[sqa]? = some (k_ia 5 (fun j => nI (k_lq x sqs i j))) := k_sn (Ne.symm hzs) (k_ss h3)
      have e1 : k_lc x (i + 1) = if k_has x i = true ∧ k_lc x i < 5 then k_lc x i + 1 else k_lc x i := rfl
      have e2 : k_lq x sqs (i + 1) = if k_has x i = true ∧ k_lc x i < 5 then (fun j => if j = k_lc x i then i else k_lq x sqs i j) else k_lq x sqs i := rfl
      have hle := k_lc_le x i
      refine m_J_run hM 3 rfl ⟨trivial, trivial, trivial, trivial⟩ ?_
      refine m_J_if (fun hc => absurd hc (nI_ge (by omega) (by omega))) (fun _ => ?_)
      refine m_J_run hM 2 rfl ⟨trivial, trivial, trivial⟩ ?_
      refine m_callS (as := [.long x, .int (nI i)]) (rest := []) (m_EX_warm E N xs) hM rfl kw_X4_79 rfl (s_has _ i) rfl (Nat.le_of_ble_eq_true rfl) (Nat.le_of_ble_eq_true rfl) (Nat.le_of_ble_eq_true rfl) (fun ht => ⟨ht, Nat.le_refl _⟩) ?_
      refine m_J_run hM 1 rfl ⟨trivial, trivial⟩ ?_
      refine m_J_if (fun hc => ?_) (fun hc => ?_)
      · have hc2 := k_z0 hc
        refine m_J_run hM 2 rfl ⟨trivial, trivial, trivial⟩ ?_
        refine m_eqS (ih (i + 1) (by omega)) ?_
        rw [k_succ i, e1, e2, if_neg (by rw [hc2]; simp), if_neg (by rw [hc2]; simp)]
        rfl
      · have hc2 := k_z1 hc
        refine m_J_run hM 1 rfl ⟨trivial, trivial⟩ ?_
        refine m_J_getf hM rfl rfl (hz) (rfl) ?_
        refine m_J_run hM 2 rfl ⟨trivial, trivial, trivial⟩ ?_
        refine m_J_if (fun hc3 => ?_) (fun hc3 => ?_)
        · have h5 : ¬ k_lc x i < 5 := fun q => nI_ge q (by omega) hc3
          refine m_J_run hM 2 rfl ⟨trivial, trivial, trivial⟩ ?_
          refine m_eqS (ih (i + 1) (by omega)) ?_
          rw [k_succ i, e1, e2, if_neg (fun q => h5 q.2), if_neg (fun q => h5 q.2)]
          rfl
        · have h5 : k_lc x i < 5 := by
            rcases Nat.lt_or_ge (k_lc x i) 5 with q | q
            · exact q
            · exact absurd (nI_le q (by omega)) hc3
          refine m_J_run hM 1 rfl ⟨trivial, trivial⟩ ?_
          refine m_J_getf hM rfl rfl (hz) (rfl) ?_
          refine m_J_run hM 1 rfl ⟨trivial, trivial⟩ ?_
          refine m_J_getf hM rfl rfl (hz) (rfl) ?_
          refine m_J_run hM 1 rfl ⟨trivial, trivial⟩ ?_
          refine m_iastN hM rfl (hq) (by omega) (by omega) ?_
          refine m_J_run hM 2 rfl ⟨trivial, trivial, trivial⟩ ?_
          refine m_J_getf hM rfl rfl (k_sn hzs hz) (rfl) ?_
          refine m_J_run hM 2 rfl ⟨trivial, trivial, trivial⟩ ?_
          rw [← k_succ]
          refine m_J_putf hM rfl rfl (k_sn hzs hz) (rfl) ?_
          refine m_J_run hM 2 rfl ⟨trivial, trivial, trivial⟩ ?_
          refine m_eqS (ih (i + 1) (by omega)) ?_
          rw [k_succ i, e1, e2, if_pos ⟨hc2, h5⟩, if_pos ⟨hc2, h5⟩]
          have e5 : (fun j => nI (if j = k_lc x i then i else k_lq x sqs i j)) = upd (fun j => nI (k_lq x sqs i j)) (k_lc x i) (nI i) := by
            funext j
            unfold upd
            by_cases hj : j = k_lc x i <;> simp [hj]
          rw [e5, List.set_comm _ _ hzs, k_s2, k_s2]
          rfl
  have h0 := loop 60 0 rfl
  rw [show k_lq x sqs 0 = sqs from rfl, k_s0 h3] at h0
  exact h0
end
end
section
/-! SEARCH: run -/
/-- the trial's uses at the start, and the answer of the whole search -/
def k_F0 (f g : Nat → Int64) (x : Int64) : Nat → Int64 := k_lift (k_upto f g 5) x
def k_run (q : Nat → kL) (m : Nat) (so : Nat → Int32) (f g : Nat → Int64) (x : Int64) (sqs : Nat → Nat) (B : Nat → Int64) (W : Nat → Int32) : (Nat → Int64) × kS :=
  k_pf q m so (k_lq x sqs 60) (k_lc x 60) (k_lc x 60) (k_sum (fun i => k_lw (q i) (k_F0 f g x) so) m) (k_bits (fun i => k_bp (q i) (k_F0 f g x)) m) (k_F0 f g x, (false, nI 0, B, k_upto (fun _ => -2147483648) W 14))
section
variable {l : Launch} {E : mE} {N : Nat} {xs : Nat → Int32} {d : Nat} {tg : Bool} {h : mH} {z tl tu tb s r : Nat} {w : Nat → Nat} {so : Nat → Int32} {sqa : Nat} {sqs : Nat → Nat} {cnt bu bb wb bk0 bk rw : Nat} {ad : Nat → Nat} {m : Nat} {q : Nat → kL} {la lu lb : Nat} {f g B : Nat → Int64} {W : Nat → Int32} {fd : Bool} {bw : Int32} {x : Int64}
set_option maxHeartbeats 2000000 in
theorem r_run (h1 : h[z]? = some (k_so tl sqa bu wb bk0 cnt fd bw)) (hT : k_LD h tl tu tb s r w g so) (hL : k_LD h la lu lb s r w f so) (h3 : h[sqa]? = some (k_ia 5 (fun i => nI (sqs i)))) (h4 : h[bu]? = some (k_uses bb)) (h5 : h[bb]? = some (k_la 5 B)) (h6 : h[wb]? = some (k_ia 14 W)) (h7 : k_BK h bk rw ad m q) (h8 : tb ≠ bb) (h9 : wb ≠ sqa) (h10 : wb ≠ s) (h11 : sqa ≠ s) (h12 : lb ≠ tb) :
    m_Sp l (m_EX E N xs) E mM_X4_run (d + 10) 0 0 [.ref z, .ref la, .ref bk, .long x] h tg (fun v H tg' => v = none ∧ tg' = tg ∧ k_SR H z tl tu tb s r w so sqa (k_lq x sqs 60) (k_lc x 60) bu bb wb bk rw ad m q (k_run q m so f g x sqs B W).1 (k_run q m so f g x sqs B W).2 ∧ k_fr [z, tb, bb, wb, sqa] h H) m_no := by
  have hM := mM_X4_run_ok
  have hzw := k_ne h1 h6
  refine m_Sp_of (by decide) (Nat.le_of_ble_eq_true rfl) ?_
  refine m_J_run hM 2 rfl ⟨trivial, trivial, trivial⟩ ?_
  refine m_J_putf hM rfl rfl (h1) (rfl) ?_
  refine m_J_run hM 2 rfl ⟨trivial, trivial, trivial⟩ ?_
  refine m_J_putf hM rfl rfl (k_ss h1) rfl ?_
  rw [k_s2]
  refine m_J_run hM 2 rfl ⟨trivial, trivial, trivial⟩ ?_
  refine m_J_putf hM rfl rfl (k_ss h1) rfl ?_
  rw [k_s2]
  refine m_J_run hM 2 rfl ⟨trivial, trivial, trivial⟩ ?_
  have hz1 : ∀ c : va_E, (h.set z (k_so tl sqa bu wb bk cnt false (nI 0)))[wb]? = some (k_ia 14 W) := fun _ => k_sn (Ne.symm hzw) h6
  have loop : ∀ n i : Nat, i + n = 14 → ∀ PR9 : Option Value → mH → Bool → Prop, (∀ v5, m_J l (m_EX E N xs) E mM_X4_run (d + 10) 0 0 PR9 m_no tg 0 0 (40, [some (.ref z), some (.ref la), some (.ref bk), some (.long x), none, v5], [], (h.set z (k_so tl sqa bu wb bk cnt false (nI 0))).set wb (k_ia 14 (k_upto (fun _ => -2147483648) W 14)))) →
      m_J l (m_EX E N xs) E mM_X4_run (d + 10) 0 0 PR9 m_no tg 0 0 (18, [some (.ref z), some (.ref la), some (.ref bk), some (.long x), none, some (.int (nI i))], [], (h.set z (k_so tl sqa bu wb bk cnt false (nI 0))).set wb (k_ia 14 (k_upto (fun _ => -2147483648) W i))) := by
    intro n
    induction n with
    | zero =>
      intro i hi PR9 hk
      have e : i = 14 := by omega
      subst e
      refine m_J_run hM 3 rfl ⟨trivial, trivial, trivial, trivial⟩ ?_
      refine m_J_if (fun _ => ?_) (fun hc => absurd (by decide) hc)
      exact hk _
    | succ n ih =>
      intro i hi PR9 hk
      refine m_J_run hM 3 rfl ⟨trivial, trivial, trivial, trivial⟩ ?_
      refine m_J_if (fun hc => absurd hc (nI_ge (by omega) (by omega))) (fun _ => ?_)
      refine m_J_run hM 1 rfl ⟨trivial, trivial⟩ ?_
      refine m_J_getf hM rfl rfl (k_sn hzw (k_ss h1)) (rfl) ?_
      refine m_J_run hM 2 rfl ⟨trivial, trivial, trivial⟩ ?_
      refine m_iastN hM rfl (k_ss (hz1 (k_ia 0 (fun _ => 0)))) (by omega) (by omega) ?_
      rw [k_s2, show upd (k_upto (fun _ => -2147483648) W i) i (-2147483648) = k_upto (fun _ => -2147483648) W (i + 1) from k_upto_I (fun _ => -2147483648) W i]
      refine m_J_run hM 2 rfl ⟨trivial, trivial, trivial⟩ ?_
      refine m_eqS (ih (i + 1) (by omega) PR9 hk) ?_
      rw [k_succ i]
      rfl
  have h0 := loop 14 0 rfl
  rw [k_upto_0, k_s0 (hz1 (k_ia 0 (fun _ => 0)))] at h0
  refine h0 _ (fun v5 => ?_)
  clear h0 loop
  -- the heap behind the loop
  have hfr : k_fr [z, tb, bb, wb, sqa] h ((h.set z (k_so tl sqa bu wb bk cnt false (nI 0))).set wb (k_ia 14 (k_upto (fun _ => -2147483648) W 14))) := k_fr_s (k_fr_s (k_fr_r _ h) (by simp)) (by simp)
  have a1 : ((h.set z (k_so tl sqa bu wb bk cnt false (nI 0))).set wb (k_ia 14 (k_upto (fun _ => -2147483648) W 14)))[z]? = some (k_so tl sqa bu wb bk cnt false (nI 0)) := k_sn hzw (k_ss h1)
  have a2 := k_LD_int (z := k_ia 14 (k_upto (fun _ => -2147483648) W 14)) (k_LD_obj (z := k_so tl sqa bu wb bk cnt false (nI 0)) hT h1) (hz1 (k_ia 0 (fun _ => 0))) (Ne.symm h10)
  have a2' := k_LD_int (z := k_ia 14 (k_upto (fun _ => -2147483648) W 14)) (k_LD_obj (z := k_so tl sqa bu wb bk cnt false (nI 0)) hL h1) (hz1 (k_ia 0 (fun _ => 0))) (Ne.symm h10)
  have a3 : ((h.set z (k_so tl sqa bu wb bk cnt false (nI 0))).set wb (k_ia 14 (k_upto (fun _ => -2147483648) W 14)))[sqa]? = some (k_ia 5 (fun i => nI (sqs i))) := k_sn (Ne.symm h9) (k_sn (Ne.symm (k_ne h1 h3)) h3)
  have a4 : ((h.set z (k_so tl sqa bu wb bk cnt false (nI 0))).set wb (k_ia 14 (k_upto (fun _ => -2147483648) W 14)))[bu]? = some (k_uses bb) := k_sn (k_ne h4 h6) (k_sn (k_neO h4 h1 (by simp)) h4)
  have a5 : ((h.set z (k_so tl sqa bu wb bk cnt false (nI 0))).set wb (k_ia 14 (k_upto (fun _ => -2147483648) W 14)))[bb]? = some (k_la 5 B) := k_sn (k_neT h5 h6 (by simp)) (k_sn (Ne.symm (k_ne h1 h5)) h5)
  have a6 : ((h.set z (k_so tl sqa bu wb bk cnt false (nI 0))).set wb (k_ia 14 (k_upto (fun _ => -2147483648) W 14)))[wb]? = some (k_ia 14 (k_upto (fun _ => -2147483648) W 14)) := k_ss (hz1 (k_ia 0 (fun _ => 0)))
  have a7 := k_BK_int (z := k_ia 14 (k_upto (fun _ => -2147483648) W 14)) (k_BK_obj (z := k_so tl sqa bu wb bk cnt false (nI 0)) h7 h1) (hz1 (k_ia 0 (fun _ => 0)))
  generalize (h.set z (k_so tl sqa bu wb bk cnt false (nI 0))).set wb (k_ia 14 (k_upto (fun _ => -2147483648) W 14)) = H at *
  clear hz1
  obtain ⟨W2, hW2⟩ : ∃ W2, W2 = k_upto (fun _ => (-2147483648 : Int32)) W 14 := ⟨_, rfl⟩
  rw [← hW2] at a6
  refine m_J_run hM 2 rfl ⟨trivial, trivial, trivial⟩ ?_
  refine m_callV (as := [.long x]) (rest := []) (m_EX_warm E N xs) hM rfl kw_X4_52 rfl rfl (a1) ⟨_, rfl, rfl⟩ (r_list a1 a3) rfl (Nat.le_of_ble_eq_true rfl) (Nat.le_of_ble_eq_true rfl) (Nat.le_of_ble_eq_true rfl) (fun ht => ⟨ht, by simp⟩) ?_
  have hqs := k_ne a1 a3
  have hfr2 : k_fr [z, tb, bb, wb, sqa] h ((H.set sqa (k_ia 5 (fun i => nI (k_lq x sqs 60 i)))).set z (k_so tl sqa bu wb bk (k_lc x 60) false (nI 0))) := k_fr_s (k_fr_s hfr (by simp)) (by simp)
  have hs1 : (H.set sqa (k_ia 5 (fun i => nI (k_lq x sqs 60 i))))[z]? = some (k_so tl sqa bu wb bk cnt false (nI 0)) := k_sn hqs a1
  have b1 : ((H.set sqa (k_ia 5 (fun i => nI (k_lq x sqs 60 i)))).set z (k_so tl sqa bu wb bk (k_lc x 60) false (nI 0)))[z]? = some (k_so tl sqa bu wb bk (k_lc x 60) false (nI 0)) := k_ss hs1
  have b2 := k_LD_obj (z := k_so tl sqa bu wb bk (k_lc x 60) false (nI 0)) (k_LD_int (z := k_ia 5 (fun i => nI (k_lq x sqs 60 i))) a2 a3 (Ne.symm h11)) hs1
  have b2' := k_LD_obj (z := k_so tl sqa bu wb bk (k_lc x 60) false (nI 0)) (k_LD_int (z := k_ia 5 (fun i => nI (k_lq x sqs 60 i))) a2' a3 (Ne.symm h11)) hs1
  have b3 : ((H.set sqa (k_ia 5 (fun i => nI (k_lq x sqs 60 i)))).set z (k_so tl sqa bu wb bk (k_lc x 60) false (nI 0)))[sqa]? = some (k_ia 5 (fun i => nI (k_lq x sqs 60 i))) := k_sn (Ne.symm hqs) (k_ss a3)
  have b4 : ((H.set sqa (k_ia 5 (fun i => nI (k_lq x sqs 60 i)))).set z (k_so tl sqa bu wb bk (k_lc x 60) false (nI 0)))[bu]? = some (k_uses bb) := k_sn (k_neO a4 a1 (by simp)) (k_sn (k_ne a4 a3) a4)
  have b5 : ((H.set sqa (k_ia 5 (fun i => nI (k_lq x sqs 60 i)))).set z (k_so tl sqa bu wb bk (k_lc x 60) false (nI 0)))[bb]? = some (k_la 5 B) := k_sn (Ne.symm (k_ne a1 a5)) (k_sn (k_neT a5 a3 (by simp)) a5)
  have b6 : ((H.set sqa (k_ia 5 (fun i => nI (k_lq x sqs 60 i)))).set z (k_so tl sqa bu wb bk (k_lc x 60) false (nI 0)))[wb]? = some (k_ia 14 W2) := k_sn (Ne.symm (k_ne a1 a6)) (k_sn h9 a6)
  have b7 := k_BK_obj (z := k_so tl sqa bu wb bk (k_lc x 60) false (nI 0)) (k_BK_int (z := k_ia 5 (fun i => nI (k_lq x sqs 60 i))) a7 a3) hs1
  generalize (H.set sqa (k_ia 5 (fun i => nI (k_lq x sqs 60 i)))).set z (k_so tl sqa bu wb bk (k_lc x 60) false (nI 0)) = H2 at *
  clear a1 a2 a2' a3 a4 a5 a6 a7 hs1 hfr hqs
  refine m_J_run hM 1 rfl ⟨trivial, trivial⟩ ?_
  refine m_J_getf hM rfl rfl (b1) (rfl) ?_
  refine m_J_getf hM rfl rfl (b2.1) (rfl) ?_
  refine m_J_run hM 1 rfl ⟨trivial, trivial⟩ ?_
  refine m_J_getf hM rfl rfl (b2'.1) (rfl) ?_
  refine m_callV (as := [.ref lu]) (rest := []) (m_EX_warm E N xs) hM rfl kw_X4_59 rfl rfl (b2.2.1) ⟨_, rfl, rfl⟩ (u_become b2.2.1 b2.2.2.1 b2'.2.1 b2'.2.2.1 h12) rfl (Nat.le_of_ble_eq_true rfl) (Nat.le_of_ble_eq_true rfl) (Nat.le_of_ble_eq_true rfl) (fun ht => ⟨ht, by simp⟩) ?_
  have c2 := k_LD_self (g := k_upto f g 5) b2
  have hSR : k_SR (H2.set tb (k_la 5 (k_upto f g 5))) z tl tu tb s r w so sqa (k_lq x sqs 60) (k_lc x 60) bu bb wb bk rw ad m q (k_upto f g 5) (false, nI 0, B, W2) :=
    ⟨k_sn (k_ne b1 b2.2.2.1) b1, c2, k_sn (k_neT b3 b2.2.2.1 (by simp)) b3, k_sn (k_ne b4 b2.2.2.1) b4, k_sn (Ne.symm h8) b5, k_sn (k_neT b6 b2.2.2.1 (by simp)) b6, k_BK_set b7 b2.2.2.1, h8, h9, h10⟩
  have hfr3 : k_fr [z, tb, bb, wb, sqa] h (H2.set tb (k_la 5 (k_upto f g 5))) := k_fr_s hfr2 (by simp)
  generalize H2.set tb (k_la 5 (k_upto f g 5)) = H3 at *
  clear b1 b2 b2' b3 b4 b5 b6 b7 c2 hfr2
  have e1 := hSR.1
  have e2 := hSR.2.1
  refine m_J_run hM 1 rfl ⟨trivial, trivial⟩ ?_
  refine m_J_getf hM rfl rfl (e1) (rfl) ?_
  refine m_J_getf hM rfl rfl (e2.1) (rfl) ?_
  refine m_J_run hM 1 rfl ⟨trivial, trivial⟩ ?_
  refine m_callV (as := [.long x]) (rest := []) (m_EX_warm E N xs) hM rfl kw_X4_63 rfl rfl (e2.2.1) ⟨_, rfl, rfl⟩ (u_lift e2.2.1 e2.2.2.1) rfl (Nat.le_of_ble_eq_true rfl) (Nat.le_of_ble_eq_true rfl) (Nat.le_of_ble_eq_true rfl) (fun ht => ⟨ht, by simp⟩) ?_
  have hSR2 := k_SR_T (G := k_lift (k_upto f g 5) x) hSR
  have hfr4 : k_fr [z, tb, bb, wb, sqa] h (H3.set tb (k_la 5 (k_lift (k_upto f g 5) x))) := k_fr_s hfr3 (by simp)
  generalize H3.set tb (k_la 5 (k_lift (k_upto f g 5) x)) = H4 at *
  clear e1 e2 hSR hfr3
  have e1 := hSR2.1
  have e2 := hSR2.2.1
  have e7 := hSR2.2.2.2.2.2.2.1
  refine m_J_run hM 4 rfl ⟨trivial, trivial, trivial, trivial, trivial⟩ ?_
  refine m_J_getf hM rfl rfl (e1) (rfl) ?_
  refine m_callV (as := [.ref tl]) (rest := [.int (nI 0), .ref z]) (m_EX_warm E N xs) hM rfl kw_X4_66 rfl rfl (e7.1) ⟨_, rfl, rfl⟩ (b_worth e7 e2) rfl (Nat.le_of_ble_eq_true rfl) (Nat.le_of_ble_eq_true rfl) (Nat.le_of_ble_eq_true rfl) (fun ht => ⟨ht, by simp⟩) ?_
  refine m_J_run hM 2 rfl ⟨trivial, trivial, trivial⟩ ?_
  refine m_J_getf hM rfl rfl (e1) (rfl) ?_
  refine m_callV (as := [.ref tl]) (rest := [.int (k_sum (fun i => k_lw (q i) (k_lift (k_upto f g 5) x) so) m), .int (nI 0), .ref z]) (m_EX_warm E N xs) hM rfl kw_X4_72 rfl rfl (e7.1) ⟨_, rfl, rfl⟩ (b_pair e7 e2) rfl (Nat.le_of_ble_eq_true rfl) (Nat.le_of_ble_eq_true rfl) (Nat.le_of_ble_eq_true rfl) (fun ht => ⟨ht, by simp⟩) ?_
  have hp0 := r_put (l := l) (E := E) (N := N) (xs := xs) (tg := tg) (k_lc_le x 60) (fun i hi => k_lq_lt x sqs 60 i hi) (k_lc x 60) (d + (5 - k_lc x 60)) H4 _ _ (k_sum (fun i => k_lw (q i) (k_lift (k_upto f g 5) x) so) m) (k_bits (fun i => k_bp (q i) (k_lift (k_upto f g 5) x)) m) (Nat.le_refl _) hSR2
  rw [Nat.sub_self, show d + (5 - k_lc x 60) + k_lc x 60 + 4 = d + 9 by have := k_lc_le x 60; omega] at hp0
  refine m_J_callV (d := d + 9) (as := [.int (nI 0), .int (k_sum (fun i => k_lw (q i) (k_lift (k_upto f g 5) x) so) m), .int (k_bits (fun i => k_bp (q i) (k_lift (k_upto f g 5) x)) m)]) (rest := []) (m_EX_warm E N xs) hM rfl kw_X4_75 rfl rfl rfl e1 ⟨_, rfl, rfl⟩ (Nat.le_of_ble_eq_true rfl) (Nat.le_of_ble_eq_true rfl) (Nat.le_of_ble_eq_true rfl) hp0 (fun v' h' tg' hp => ?_) (fun nm h' hp => hp.elim)
  obtain ⟨rfl, rfl, hp1, hp2⟩ := hp
  refine ⟨fun ht => ⟨ht, by rw [hp2.1]; exact Nat.le_refl _⟩, ?_⟩
  have hp3 : k_fr [z, tb, bb, wb, sqa] H4 h' := ⟨hp2.1, fun k hk => hp2.2 k (fun q9 => hk (by simp at q9 ⊢; rcases q9 with q9 | q9 | q9 | q9 <;> simp [q9]))⟩
  subst hW2
  exact m_J_vret hM rfl rfl (Nat.le_refl _) (Nat.le_refl _) ⟨rfl, rfl, hp1, k_fr_t hfr4 hp3⟩
end
end
section
/-! TAPE AND READER: the small things -/
def k_at (g : Nat → Int32) (n p : Nat) : Int32 := if p < n then g p &&& nI 255 else -nI 1
abbrev k_tp (tb n : Nat) : va_E := .inr (5, [.ref tb, .int (nI n)])
abbrev k_rd (tp p : Nat) (wr : Int32) : va_E := .inr (3, [.ref tp, .int (nI p), .int wr])
def k_TP (h : mH) (z tp tb p : Nat) (wr : Int32) (n : Nat) (g : Nat → Int32) : Prop := h[z]? = some (k_rd tp p wr) ∧ h[tp]? = some (k_tp tb n) ∧ h[tb]? = some (k_ba 400 g) ∧ n ≤ 400
theorem k_TP_z {h : mH} {z tp tb p p' : Nat} {wr wr' : Int32} {n : Nat} {g : Nat → Int32} (hT : k_TP h z tp tb p wr n g) : k_TP (h.set z (k_rd tp p' wr')) z tp tb p' wr' n g := by
  obtain ⟨h1, h2, h3, h4⟩ := hT
  exact ⟨k_ss h1, k_sn (k_neO h2 h1 (by simp)) h2, k_sn (Ne.symm (k_ne h1 h3)) h3, h4⟩
def k_sbf (g : Nat → Int32) (n : Nat) : Nat → Nat → Nat
  | 0, p => p
  | f + 1, p => if p < n ∧ k_at g n p = nI 32 then k_sbf g n f (p + 1) else p
def k_sb (g : Nat → Int32) (n p : Nat) : Nat := k_sbf g n (n - p) p
def k_rlf (g : Nat → Int32) (n a b p : Nat) : Nat → Nat → Nat
  | 0, i => i
  | f + 1, i => if i < n ∧ ¬ k_at g n (p + i) < nI a ∧ ¬ nI b < k_at g n (p + i) then k_rlf g n a b p f (i + 1) else i
def k_rl (g : Nat → Int32) (n a b p : Nat) : Nat := k_rlf g n a b p n 0
def k_rf (wr : Int32) (p : Nat) : Int32 := if wr = -nI 1 then nI p else wr
theorem k_sbf_le (g : Nat → Int32) (n : Nat) : ∀ f p, p ≤ n → p ≤ k_sbf g n f p ∧ k_sbf g n f p ≤ n := by
  intro f
  induction f with
  | zero => intro p hp; exact ⟨Nat.le_refl _, hp⟩
  | succ f ih =>
    intro p hp
    rw [k_sbf]
    split
    · rename_i hc
      have := ih (p + 1) (by omega)
      omega
    · exact ⟨Nat.le_refl _, hp⟩
theorem k_sb_le {g : Nat → Int32} {n p : Nat} (hp : p ≤ n) : p ≤ k_sb g n p ∧ k_sb g n p ≤ n := k_sbf_le g n _ p hp
theorem k_rlf_le (g : Nat → Int32) (n a b p : Nat) (ha : a < 1000) (hp : p ≤ n) : ∀ f i, p + i ≤ n → i ≤ k_rlf g n a b p f i ∧ p + k_rlf g n a b p f i ≤ n := by
  intro f
  induction f with
  | zero => intro i hi; exact ⟨Nat.le_refl _, hi⟩
  | succ f ih =>
    intro i hi
    rw [k_rlf]
    split
    · rename_i hc
      have hlt : p + i < n := by
        rcases Nat.lt_or_ge (p + i) n with q | q
        · exact q
        · exfalso
          apply hc.2.1
          rw [k_at, if_neg (by omega)]
          have h0 : (-nI 1 : Int32) < nI 0 := by decide
          exact Int32.lt_of_lt_of_le h0 (nI_le (by omega) (by omega))
      have := ih (i + 1) (by omega)
      omega
    · exact ⟨Nat.le_refl _, hi⟩
theorem k_rl_le {g : Nat → Int32} {n a b p : Nat} (ha : a < 1000) (hp : p ≤ n) : p + k_rl g n a b p ≤ n := (k_rlf_le g n a b p ha hp n 0 hp).2
section
variable {l : Launch} {E : mE} {N : Nat} {xs : Nat → Int32} {d : Nat} {tg : Bool} {h : mH} {z tp tb p : Nat} {wr : Int32} {n : Nat} {g : Nat → Int32}
theorem t_at {p : Nat} (hp : p < 100000) (h2 : h[tp]? = some (k_tp tb n)) (h3 : h[tb]? = some (k_ba 400 g)) (hn : n ≤ 400) : m_Dt l (m_EX E N xs) E mM_X6_at d 0 0 [.ref tp, .int (nI p)] h tg (some (.int (k_at g n p))) h tg := by
  have hM := mM_X6_at_ok
  refine m_Sp_of (by decide) (Nat.le_of_ble_eq_true rfl) ?_
  refine m_J_run hM 2 rfl ⟨trivial, trivial, trivial⟩ ?_
  refine m_J_if (fun hc => absurd hc (nI_pos (by omega))) (fun _ => ?_)
  refine m_J_run hM 2 rfl ⟨trivial, trivial, trivial⟩ ?_
  refine m_J_getf hM rfl rfl (h2) (rfl) ?_
  refine m_J_run hM 1 rfl ⟨trivial, trivial⟩ ?_
  refine m_J_if (fun hc => ?_) (fun hc => ?_)
  · have hc2 : ¬ p < n := fun q => nI_ge q (by omega) hc
    refine m_J_run hM 1 rfl ⟨trivial, trivial⟩ ?_
    exact m_iret hM rfl rfl rfl (Nat.le_of_ble_eq_true rfl) (Nat.le_of_ble_eq_true rfl) (by rw [k_at, if_neg hc2]) (rfl)
  · have hc2 : p < n := by
      rcases Nat.lt_or_ge p n with q | q
      · exact q
      · exact absurd (nI_le q (by omega)) hc
    refine m_J_run hM 1 rfl ⟨trivial, trivial⟩ ?_
    refine m_J_getf hM rfl rfl (h2) (rfl) ?_
    refine m_J_run hM 1 rfl ⟨trivial, trivial⟩ ?_
    refine m_baldN hM rfl (h3) (by omega) (by omega) ?_
    refine m_J_run hM 3 rfl ⟨trivial, trivial, trivial, trivial⟩ ?_
    exact m_iret hM rfl rfl rfl (Nat.le_of_ble_eq_true rfl) (Nat.le_of_ble_eq_true rfl) (by rw [k_at, if_pos hc2]) (rfl)
theorem t_room (h2 : h[tp]? = some (k_tp tb n)) : m_Dt l (m_EX E N xs) E mM_X6_hasRoom d 0 0 [.ref tp] h tg (some (.int (k_z (decide (¬ nI 380 < nI n))))) h tg := by
  have hM := mM_X6_hasRoom_ok
  refine m_Sp_of (by decide) (Nat.le_of_ble_eq_true rfl) ?_
  refine m_J_run hM 1 rfl ⟨trivial, trivial⟩ ?_
  refine m_J_getf hM rfl rfl (h2) (rfl) ?_
  refine m_J_run hM 2 rfl ⟨trivial, trivial, trivial⟩ ?_
  refine m_J_if (fun hc => ?_) (fun hc => ?_)
  · refine m_J_run hM 1 rfl ⟨trivial, trivial⟩ ?_
    exact m_iret hM rfl rfl (by decide) (Nat.le_of_ble_eq_true rfl) (Nat.le_of_ble_eq_true rfl) (by simp [k_z, hc]) (rfl)
  · refine m_J_run hM 2 rfl ⟨trivial, trivial, trivial⟩ ?_
    exact m_iret hM rfl rfl (by decide) (Nat.le_of_ble_eq_true rfl) (Nat.le_of_ble_eq_true rfl) (by simp [k_z, hc]) (rfl)
theorem t_sb (hp : p ≤ n) (hT : k_TP h z tp tb p wr n g) : m_Dt l (m_EX E N xs) E mM_X3_skipBlanks (d + 1) 0 0 [.ref z] h tg none (h.set z (k_rd tp (k_sb g n p) wr)) tg := by
  have hM := mM_X3_skipBlanks_ok
  refine m_Sp_of (by decide) (Nat.le_of_ble_eq_true rfl) ?_
  have loop : ∀ (f p' : Nat) (H : mH), p' + f = n → k_TP H z tp tb p' wr n g → m_J l (m_EX E N xs) E mM_X3_skipBlanks (d + 1) 0 0 (m_K none (H.set z (k_rd tp (k_sbf g n f p') wr)) tg) m_no tg 0 0 (0, [some (.ref z)], [], H) := by
    intro f
    induction f with
    | zero =>
      intro p' H hp' hT
      obtain ⟨h1, h2, h3, h4⟩ := id hT
      refine m_J_run hM 1 rfl ⟨trivial, trivial⟩ ?_
      refine m_J_getf hM rfl rfl (h1) (rfl) ?_
      refine m_J_run hM 1 rfl ⟨trivial, trivial⟩ ?_
      refine m_J_getf hM rfl rfl (h1) (rfl) ?_
      refine m_J_getf hM rfl rfl (h2) (rfl) ?_
      refine m_J_run hM 1 rfl ⟨trivial, trivial⟩ ?_
      refine m_J_if (fun _ => ?_) (fun hc => absurd (nI_le (by omega) (by omega)) hc)
      exact m_vret hM rfl rfl (Nat.le_of_ble_eq_true rfl) (Nat.le_of_ble_eq_true rfl) (by rw [k_sbf, k_s0 h1])
    | succ f ih =>
      intro p' H hp' hT
      obtain ⟨h1, h2, h3, h4⟩ := id hT
      refine m_J_run hM 1 rfl ⟨trivial, trivial⟩ ?_
      refine m_J_getf hM rfl rfl (h1) (rfl) ?_
      refine m_J_run hM 1 rfl ⟨trivial, trivial⟩ ?_
      refine m_J_getf hM rfl rfl (h1) (rfl) ?_
      refine m_J_getf hM rfl rfl (h2) (rfl) ?_
      refine m_J_run hM 1 rfl ⟨trivial, trivial⟩ ?_
      refine m_J_if (fun hc => absurd hc (nI_ge (by omega) (by omega))) (fun _ => ?_)
      refine m_J_run hM 1 rfl ⟨trivial, trivial⟩ ?_
      refine m_J_getf hM rfl rfl (h1) (rfl) ?_
      refine m_J_run hM 1 rfl ⟨trivial, trivial⟩ ?_
      refine m_J_getf hM rfl rfl (h1) (rfl) ?_
      refine m_callV (as := [.int (nI p')]) (rest := []) (m_EX_warm E N xs) hM rfl kw_X3_30 rfl rfl (h2) ⟨_, rfl, rfl⟩ (t_at (by omega) h2 h3 h4) rfl (Nat.le_of_ble_eq_true rfl) (Nat.le_of_ble_eq_true rfl) (Nat.le_of_ble_eq_true rfl) (fun ht => ⟨ht, by simp⟩) ?_
      refine m_J_run hM 2 rfl ⟨trivial, trivial, trivial⟩ ?_
      refine m_J_if (fun hc => ?_) (fun hc => ?_)
      · exact m_vret hM rfl rfl (Nat.le_of_ble_eq_true rfl) (Nat.le_of_ble_eq_true rfl) (by rw [k_sbf, if_neg (fun q => hc q.2), k_s0 h1])
      · have hc2 := Classical.not_not.mp hc
        refine m_J_run hM 2 rfl ⟨trivial, trivial, trivial⟩ ?_
        refine m_J_getf hM rfl rfl (h1) (rfl) ?_
        refine m_J_run hM 2 rfl ⟨trivial, trivial, trivial⟩ ?_
        rw [← k_succ]
        refine m_J_putf hM rfl rfl (h1) (rfl) ?_
        refine m_J_run hM 1 rfl ⟨trivial, trivial⟩ ?_
        rw [k_sbf, if_pos ⟨by omega, hc2⟩]
        have h0 := ih (p' + 1) (H.set z (k_rd tp (p' + 1) wr)) (by omega) (k_TP_z hT)
        rw [k_s2] at h0
        exact h0
  exact loop (n - p) p h (by omega) hT
theorem t_rl {a b : Nat} (ha : a < 1000) (hb : b < 1000) (hp : p ≤ n) (hT : k_TP h z tp tb p wr n g) : m_Dt l (m_EX E N xs) E mM_X3_runLength (d + 1) 0 0 [.ref z, .int (nI a), .int (nI b)] h tg (some (.int (nI (k_rl g n a b p)))) h tg := by
  have hM := mM_X3_runLength_ok
  obtain ⟨h1, h2, h3, h4⟩ := id hT
  refine m_Sp_of (by decide) (Nat.le_of_ble_eq_true rfl) ?_
  refine m_J_run hM 2 rfl ⟨trivial, trivial, trivial⟩ ?_
  have loop : ∀ f i : Nat, i + f = n → m_J l (m_EX E N xs) E mM_X3_runLength (d + 1) 0 0 (m_K (some (.int (nI (k_rlf g n a b p f i)))) h tg) m_no tg 0 0 (2, [some (.ref z), some (.int (nI a)), some (.int (nI b)), some (.int (nI i))], [], h) := by
    intro f
    induction f with
    | zero =>
      intro i hi
      refine m_J_run hM 2 rfl ⟨trivial, trivial, trivial⟩ ?_
      refine m_J_getf hM rfl rfl (h1) (rfl) ?_
      refine m_J_getf hM rfl rfl (h2) (rfl) ?_
      refine m_J_run hM 1 rfl ⟨trivial, trivial⟩ ?_
      refine m_J_if (fun _ => ?_) (fun hc => absurd (nI_le (by omega) (by omega)) hc)
      refine m_J_run hM 1 rfl ⟨trivial, trivial⟩ ?_
      exact m_iret hM rfl rfl rfl (Nat.le_of_ble_eq_true rfl) (Nat.le_of_ble_eq_true rfl) (rfl) (rfl)
    | succ f ih =>
      intro i hi
      have stop : ∀ hno : ¬ (i < n ∧ ¬ k_at g n (p + i) < nI a ∧ ¬ nI b < k_at g n (p + i)), m_J l (m_EX E N xs) E mM_X3_runLength (d + 1) 0 0 (m_K (some (.int (nI (k_rlf g n a b p (f + 1) i)))) h tg) m_no tg 0 0 (53, [some (.ref z), some (.int (nI a)), some (.int (nI b)), some (.int (nI i))], [], h) := by
        intro hno
        refine m_J_run hM 1 rfl ⟨trivial, trivial⟩ ?_
        exact m_iret hM rfl rfl rfl (Nat.le_of_ble_eq_true rfl) (Nat.le_of_ble_eq_true rfl) (by rw [k_rlf, if_neg hno]) (rfl)
      refine m_J_run hM 2 rfl ⟨trivial, trivial, trivial⟩ ?_
      refine m_J_getf hM rfl rfl (h1) (rfl) ?_
      refine m_J_getf hM rfl rfl (h2) (rfl) ?_
      refine m_J_run hM 1 rfl ⟨trivial, trivial⟩ ?_
      refine m_J_if (fun hc => absurd hc (nI_ge (by omega) (by omega))) (fun _ => ?_)
      refine m_J_run hM 1 rfl ⟨trivial, trivial⟩ ?_
      refine m_J_getf hM rfl rfl (h1) (rfl) ?_
      refine m_J_run hM 1 rfl ⟨trivial, trivial⟩ ?_
      refine m_J_getf hM rfl rfl (h1) (rfl) ?_
      refine m_J_run hM 2 rfl ⟨trivial, trivial, trivial⟩ ?_
      rw [nI_add]
      refine m_callV (as := [.int (nI (p + i))]) (rest := []) (m_EX_warm E N xs) hM rfl kw_X3_30 rfl rfl (h2) ⟨_, rfl, rfl⟩ (t_at (by omega) h2 h3 h4) rfl (Nat.le_of_ble_eq_true rfl) (Nat.le_of_ble_eq_true rfl) (Nat.le_of_ble_eq_true rfl) (fun ht => ⟨ht, by simp⟩) ?_
      refine m_J_run hM 2 rfl ⟨trivial, trivial, trivial⟩ ?_
      refine m_J_if (fun hc1 => ?_) (fun hc1 => ?_)
      · exact stop (fun q => q.2.1 hc1)
      · refine m_J_run hM 1 rfl ⟨trivial, trivial⟩ ?_
        refine m_J_getf hM rfl rfl (h1) (rfl) ?_
        refine m_J_run hM 1 rfl ⟨trivial, trivial⟩ ?_
        refine m_J_getf hM rfl rfl (h1) (rfl) ?_
        refine m_J_run hM 2 rfl ⟨trivial, trivial, trivial⟩ ?_
        rw [nI_add]
        refine m_callV (as := [.int (nI (p + i))]) (rest := []) (m_EX_warm E N xs) hM rfl kw_X3_30 rfl rfl (h2) ⟨_, rfl, rfl⟩ (t_at (by omega) h2 h3 h4) rfl (Nat.le_of_ble_eq_true rfl) (Nat.le_of_ble_eq_true rfl) (Nat.le_of_ble_eq_true rfl) (fun ht => ⟨ht, by simp⟩) ?_
        refine m_J_run hM 2 rfl ⟨trivial, trivial, trivial⟩ ?_
        refine m_J_if (fun hc2 => ?_) (fun hc2 => ?_)
        · exact stop (fun q => q.2.2 hc2)
        · rw [k_rlf, if_pos ⟨by omega, hc1, hc2⟩]
          refine m_J_run hM 2 rfl ⟨trivial, trivial, trivial⟩ ?_
          refine m_eqS (ih (i + 1) (by omega)) ?_
          rw [k_succ i]
          rfl
  exact loop n 0 (by omega)
theorem t_ref (hT : k_TP h z tp tb p wr n g) : m_Dt l (m_EX E N xs) E mM_X3_refuseNext d 0 0 [.ref z] h tg none (h.set z (k_rd tp p (k_rf wr p))) tg := by
  have hM := mM_X3_refuseNext_ok
  obtain ⟨h1, h2, h3, h4⟩ := id hT
  refine m_Sp_of (by decide) (Nat.le_of_ble_eq_true rfl) ?_
  refine m_J_run hM 1 rfl ⟨trivial, trivial⟩ ?_
  refine m_J_getf hM rfl rfl (h1) (rfl) ?_
  refine m_J_run hM 2 rfl ⟨trivial, trivial, trivial⟩ ?_
  refine m_J_if (fun hc => ?_) (fun hc => ?_)
  · exact m_vret hM rfl rfl (Nat.le_of_ble_eq_true rfl) (Nat.le_of_ble_eq_true rfl) (by rw [k_rf, if_neg hc, k_s0 h1])
  · have hc2 := Classical.not_not.mp hc
    refine m_J_run hM 2 rfl ⟨trivial, trivial, trivial⟩ ?_
    refine m_J_getf hM rfl rfl (h1) (rfl) ?_
    refine m_J_putf hM rfl rfl (h1) (rfl) ?_
    exact m_vret hM rfl rfl (Nat.le_of_ble_eq_true rfl) (Nat.le_of_ble_eq_true rfl) (by rw [k_rf, if_pos hc2]; rfl)
end
end
section
/-! READER: words, numbers, uses -/
def k_mtf (g : Nat → Int32) (n p : Nat) (t : List Nat) : Nat → Nat → Bool
  | 0, _ => true
  | f + 1, i => if k_at g n (p + i) = nI (t.getD i 0) then k_mtf g n p t f (i + 1) else false
def k_swb (g : Nat → Int32) (n p si : Nat) : Bool := decide (k_rl g n 97 122 (k_sb g n p) = (m_tx si).length) && k_mtf g n (k_sb g n p) (m_tx si) (m_tx si).length 0
def k_swp (g : Nat → Int32) (n p si : Nat) : Nat := if k_swb g n p si then k_sb g n p + (m_tx si).length else k_sb g n p
def k_nm (g : Nat → Int32) (n p : Nat) : Nat → Int32
  | 0 => nI 0
  | i + 1 => nI 10 * k_nm g n p i + k_at g n (p + i) - nI 48
def k_nok (g : Nat → Int32) (n p lo hi : Nat) : Bool := decide (¬ k_rl g n 48 57 (k_sb g n p) < 1 ∧ k_rl g n 48 57 (k_sb g n p) ≤ 2 ∧ ¬ k_nm g n (k_sb g n p) (k_rl g n 48 57 (k_sb g n p)) < nI lo ∧ k_nm g n (k_sb g n p) (k_rl g n 48 57 (k_sb g n p)) ≤ nI hi)
def k_nu (g : Nat → Int32) (n p lo hi : Nat) : Nat := if k_nok g n p lo hi then (k_nm g n (k_sb g n p) (k_rl g n 48 57 (k_sb g n p))).toNatClampNeg else lo
abbrev kR : Type := Nat × Int32
def k_nr (g : Nat → Int32) (n lo hi : Nat) (R : kR) : kR := if k_nok g n R.1 lo hi then (k_sb g n R.1 + k_rl g n 48 57 (k_sb g n R.1), R.2) else (k_sb g n R.1, k_rf R.2 (k_sb g n R.1))
/-- a use: which, and where the reader stands then -/
def k_ru (g : Nat → Int32) (n : Nat) (R : kR) : Nat × kR :=
  let p4 := k_swp g n R.1 4
  let p5 := k_swp g n p4 5
  let p6 := k_swp g n p5 6
  let p7 := k_swp g n p6 7
  let p8 := k_swp g n p7 8
  if k_swb g n R.1 4 then (0, p4, R.2) else if k_swb g n p4 5 then (1, p5, R.2) else if k_swb g n p5 6 then (2, p6, R.2) else if k_swb g n p6 7 then (3, p7, R.2) else if k_swb g n p7 8 then (4, p8, R.2) else (0, p8, k_rf R.2 p8)
/-- a word that must be there -/
def k_rw (g : Nat → Int32) (n si : Nat) (R : kR) : kR := if k_swb g n R.1 si then (k_swp g n R.1 si, R.2) else (k_swp g n R.1 si, k_rf R.2 (k_swp g n R.1 si))
theorem k_swp_le {g : Nat → Int32} {n p si : Nat} (hp : p ≤ n) : k_swp g n p si ≤ n := by
  have h1 := k_sb_le (g := g) hp
  have h2 := k_rl_le (g := g) (a := 97) (b := 122) (by omega) h1.2
  unfold k_swp
  split
  · rename_i hc
    simp only [k_swb, Bool.and_eq_true, decide_eq_true_eq] at hc
    rw [← hc.1]
    exact h2
  · exact h1.2
theorem k_nr_le {g : Nat → Int32} {n lo hi : Nat} {R : kR} (hp : R.1 ≤ n) : (k_nr g n lo hi R).1 ≤ n := by
  have h1 := k_sb_le (g := g) hp
  have h2 := k_rl_le (g := g) (a := 48) (b := 57) (by omega) h1.2
  unfold k_nr
  split
  · exact h2
  · exact h1.2
theorem k_ru_le {g : Nat → Int32} {n : Nat} {R : kR} (hp : R.1 ≤ n) : (k_ru g n R).2.1 ≤ n ∧ (k_ru g n R).1 < 5 := by
  have h4 := k_swp_le (g := g) (si := 4) hp
  have h5 := k_swp_le (g := g) (si := 5) h4
  have h6 := k_swp_le (g := g) (si := 6) h5
  have h7 := k_swp_le (g := g) (si := 7) h6
  have h8 := k_swp_le (g := g) (si := 8) h7
  unfold k_ru
  dsimp only
  repeat' split
  all_goals exact ⟨by assumption, by simp⟩
theorem k_rw_le {g : Nat → Int32} {n si : Nat} {R : kR} (hp : R.1 ≤ n) : (k_rw g n si R).1 ≤ n := by
  have h4 := k_swp_le (g := g) (si := si) hp
  unfold k_rw
  split <;> exact h4
theorem k_nI_of {x : Int32} {b : Nat} (h0 : ¬ x < 0) (h : x ≤ nI b) (hb : b < 100000) : x = nI x.toNatClampNeg ∧ x.toNatClampNeg ≤ b := by
  obtain ⟨j, hj, e⟩ := nI_of h0
  subst e
  rw [nI_clamp hj]
  refine ⟨rfl, ?_⟩
  rcases Nat.lt_or_ge b j with q | q
  · exact absurd h (nI_ge q hj)
  · exact q
theorem k_nu_ok {g : Nat → Int32} {n p lo hi : Nat} (hlh : lo ≤ hi) (hh : hi < 1000) : lo ≤ k_nu g n p lo hi ∧ k_nu g n p lo hi ≤ hi ∧ (k_nok g n p lo hi = true → k_nm g n (k_sb g n p) (k_rl g n 48 57 (k_sb g n p)) = nI (k_nu g n p lo hi)) := by
  unfold k_nu
  by_cases hk : k_nok g n p lo hi = true
  · rw [if_pos hk]
    have hk2 := hk
    simp only [k_nok, decide_eq_true_eq] at hk2
    obtain ⟨-, -, h3, h4⟩ := hk2
    have h0 : ¬ k_nm g n (k_sb g n p) (k_rl g n 48 57 (k_sb g n p)) < 0 := fun q => h3 (Int32.lt_of_lt_of_le q (by rw [← nI_0]; exact nI_le (by omega) (by omega)))
    obtain ⟨e, he⟩ := k_nI_of h0 h4 (by omega)
    refine ⟨?_, he, fun _ => e⟩
    rcases Nat.lt_or_ge (k_nm g n (k_sb g n p) (k_rl g n 48 57 (k_sb g n p))).toNatClampNeg lo with q | q
    · exact absurd (by rw [e]; exact nI_lt q (by omega)) h3
    · exact q
  · rw [if_neg hk]
    exact ⟨Nat.le_refl _, hlh, fun h => absurd h hk⟩
section
variable {l : Launch} {E : mE} {N : Nat} {xs : Nat → Int32} {d : Nat} {tg : Bool} {h : mH} {z tp tb : Nat} {R : kR} {n : Nat} {g : Nat → Int32}
set_option maxHeartbeats 1000000 in
theorem t_sw {si : Nat} (hi : si < 42) (hp : R.1 ≤ n) (hT : k_TP h z tp tb R.1 R.2 n g) : m_Dt l (m_EX E N xs) E mM_X3_skipWord (d + 4) 0 0 [.ref z, .ref (1000001 + si)] h tg (some (.int (k_z (k_swb g n R.1 si)))) (h.set z (k_rd tp (k_swp g n R.1 si) R.2)) tg := by
  have hM := mM_X3_skipWord_ok
  obtain ⟨p, wr⟩ := R
  dsimp only at hp hT ⊢
  obtain ⟨h1, h2, h3, h4⟩ := id hT
  have hq := k_sb_le (g := g) hp
  have hr := k_rl_le (g := g) (a := 97) (b := 122) (by omega) hq.2
  have htx := (k_tx si hi).1
  refine m_Sp_of (by decide) (Nat.le_of_ble_eq_true rfl) ?_
  refine m_J_run hM 1 rfl ⟨trivial, trivial⟩ ?_
  refine m_callV (as := []) (rest := []) (m_EX_warm E N xs) hM rfl kw_X3_27 rfl rfl (h1) ⟨_, rfl, rfl⟩ (t_sb hp hT) rfl (Nat.le_of_ble_eq_true rfl) (Nat.le_of_ble_eq_true rfl) (Nat.le_of_ble_eq_true rfl) (fun ht => ⟨ht, by simp⟩) ?_
  have hT2 := k_TP_z (p' := k_sb g n p) (wr' := wr) hT
  have hs2 : ∀ c, (h.set z (k_rd tp (k_sb g n p) wr)).set z c = h.set z c := fun c => k_s2 h z _ c
  generalize h.set z (k_rd tp (k_sb g n p) wr) = H at hT2 hs2 ⊢
  obtain ⟨h1, h2, h3, h4⟩ := id hT2
  have no : k_swb g n p si = false → ∀ (L : List (Option Value)) , m_J l (m_EX E N xs) E mM_X3_skipWord (d + 4) 0 0 (m_K (some (.int (k_z (k_swb g n p si)))) (h.set z (k_rd tp (k_swp g n p si) wr)) tg) m_no tg 0 0 (22, L, [.int (nI 0)], H) ∧ m_J l (m_EX E N xs) E mM_X3_skipWord (d + 4) 0 0 (m_K (some (.int (k_z (k_swb g n p si)))) (h.set z (k_rd tp (k_swp g n p si) wr)) tg) m_no tg 0 0 (52, L, [.int (nI 0)], H) := by
    intro hb L
    have e : H = h.set z (k_rd tp (k_swp g n p si) wr) := by rw [k_swp, if_neg (by rw [hb]; decide), ← hs2, k_s0 h1]
    exact ⟨m_iret hM rfl rfl (by decide) (Nat.le_refl _) (Nat.le_refl _) (by rw [hb]; rfl) e, m_iret hM rfl rfl (by decide) (Nat.le_refl _) (Nat.le_refl _) (by rw [hb]; rfl) e⟩
  refine m_J_run hM 3 rfl ⟨trivial, trivial, trivial, trivial⟩ ?_
  refine m_callV (as := [.int (nI 97), .int (nI 122)]) (rest := []) (m_EX_warm E N xs) hM rfl kw_X3_131 rfl rfl (h1) ⟨_, rfl, rfl⟩ (t_rl (by omega) (by omega) hq.2 hT2) rfl (Nat.le_of_ble_eq_true rfl) (Nat.le_of_ble_eq_true rfl) (Nat.le_of_ble_eq_true rfl) (fun ht => ⟨ht, by simp⟩) ?_
  refine m_J_run hM 3 rfl ⟨trivial, trivial, trivial, trivial⟩ ?_
  refine m_callT (as := []) (rest := [.int (nI (k_rl g n 97 122 (k_sb g n p)))]) hM rfl kw_X3_135 rfl rfl rfl hi (s_length hi) rfl (Nat.le_of_ble_eq_true rfl) (Nat.le_refl _) (Nat.le_refl _) ?_
  refine m_J_run hM 1 rfl ⟨trivial, trivial⟩ ?_
  refine m_J_if (fun hc => ?_) (fun hc => ?_)
  · have hc2 : k_rl g n 97 122 (k_sb g n p) = (m_tx si).length := (k_eqN (by omega) (by omega)).mp hc
    rw [hc2]
    refine m_J_run hM 2 rfl ⟨trivial, trivial, trivial⟩ ?_
    have loop : ∀ f i : Nat, i + f = (m_tx si).length → (k_swb g n p si = k_mtf g n (k_sb g n p) (m_tx si) f i) → m_J l (m_EX E N xs) E mM_X3_skipWord (d + 4) 0 0 (m_K (some (.int (k_z (k_swb g n p si)))) (h.set z (k_rd tp (k_swp g n p si) wr)) tg) m_no tg 0 0 (25, [some (.ref z), some (.ref (1000001 + si)), some (.int (nI (m_tx si).length)), some (.int (nI i))], [], H) := by
      intro f
      induction f with
      | zero =>
        intro i hi9 hb
        rw [k_mtf] at hb
        refine m_J_run hM 3 rfl ⟨trivial, trivial, trivial, trivial⟩ ?_
        refine m_J_if (fun _ => ?_) (fun hc => absurd (nI_le (by omega) (by omega)) hc)
        refine m_J_run hM 2 rfl ⟨trivial, trivial, trivial⟩ ?_
        refine m_J_getf hM rfl rfl (h1) (rfl) ?_
        refine m_J_run hM 2 rfl ⟨trivial, trivial, trivial⟩ ?_
        rw [nI_add]
        refine m_J_putf hM rfl rfl (h1) (rfl) ?_
        rw [hs2]
        refine m_J_run hM 1 rfl ⟨trivial, trivial⟩ ?_
        exact m_iret hM rfl rfl (by decide) (Nat.le_of_ble_eq_true rfl) (Nat.le_of_ble_eq_true rfl) (by rw [hb]; rfl) (by rw [k_swp, if_pos hb]; rfl)
      | succ f ih =>
        intro i hi9 hb
        rw [k_mtf] at hb
        refine m_J_run hM 3 rfl ⟨trivial, trivial, trivial, trivial⟩ ?_
        refine m_J_if (fun hc => absurd hc (nI_ge (by omega) (by omega))) (fun _ => ?_)
        refine m_J_run hM 1 rfl ⟨trivial, trivial⟩ ?_
        refine m_J_getf hM rfl rfl (h1) (rfl) ?_
        refine m_J_run hM 1 rfl ⟨trivial, trivial⟩ ?_
        refine m_J_getf hM rfl rfl (h1) (rfl) ?_
        refine m_J_run hM 2 rfl ⟨trivial, trivial, trivial⟩ ?_
        rw [nI_add]
        refine m_callV (as := [.int (nI (k_sb g n p + i))]) (rest := []) (m_EX_warm E N xs) hM rfl kw_X3_30 rfl rfl (h2) ⟨_, rfl, rfl⟩ (t_at (by omega) h2 h3 h4) rfl (Nat.le_of_ble_eq_true rfl) (Nat.le_of_ble_eq_true rfl) (Nat.le_of_ble_eq_true rfl) (fun ht => ⟨ht, by simp⟩) ?_
        refine m_J_run hM 2 rfl ⟨trivial, trivial, trivial⟩ ?_
        refine m_callT (as := [.int (nI i)]) (rest := [.int (k_at g n (k_sb g n p + i))]) hM rfl kw_X3_140 rfl rfl rfl hi (s_char hi (by omega)) rfl (Nat.le_of_ble_eq_true rfl) (Nat.le_refl _) (Nat.le_refl _) ?_
        refine m_J_run hM 1 rfl ⟨trivial, trivial⟩ ?_
        refine m_J_if (fun hc3 => ?_) (fun hc3 => ?_)
        · rw [if_pos hc3] at hb
          refine m_J_run hM 2 rfl ⟨trivial, trivial, trivial⟩ ?_
          refine m_eqS (ih (i + 1) (by omega) hb) ?_
          rw [k_succ i]
          rfl
        · rw [if_neg hc3] at hb
          refine m_J_run hM 1 rfl ⟨trivial, trivial⟩ ?_
          exact (no hb _).2
    refine loop (m_tx si).length 0 (by omega) ?_
    simp [k_swb, hc2]
  · have hc2 : ¬ k_rl g n 97 122 (k_sb g n p) = (m_tx si).length := fun e => hc (by rw [e])
    refine m_J_run hM 1 rfl ⟨trivial, trivial⟩ ?_
    exact (no (by simp [k_swb, hc2]) _).1
set_option maxHeartbeats 1000000 in
theorem t_num {lo hi : Nat} (hlh : lo ≤ hi) (hh : hi < 1000) (hp : R.1 ≤ n) (hT : k_TP h z tp tb R.1 R.2 n g) : m_Dt l (m_EX E N xs) E mM_X3_readNumber (d + 2) 0 0 [.ref z, .int (nI lo), .int (nI hi)] h tg (some (.int (nI (k_nu g n R.1 lo hi)))) (h.set z (k_rd tp (k_nr g n lo hi R).1 (k_nr g n lo hi R).2)) tg := by
  have hM := mM_X3_readNumber_ok
  obtain ⟨p, wr⟩ := R
  dsimp only at hp hT ⊢
  obtain ⟨h1, h2, h3, h4⟩ := id hT
  have hq := k_sb_le (g := g) hp
  have hr := k_rl_le (g := g) (a := 48) (b := 57) (by omega) hq.2
  have hnu := k_nu_ok (g := g) (n := n) (p := p) hlh hh
  refine m_Sp_of (by decide) (Nat.le_of_ble_eq_true rfl) ?_
  refine m_J_run hM 1 rfl ⟨trivial, trivial⟩ ?_
  refine m_callV (as := []) (rest := []) (m_EX_warm E N xs) hM rfl kw_X3_27 rfl rfl (h1) ⟨_, rfl, rfl⟩ (t_sb hp hT) rfl (Nat.le_of_ble_eq_true rfl) (Nat.le_of_ble_eq_true rfl) (Nat.le_of_ble_eq_true rfl) (fun ht => ⟨ht, by simp⟩) ?_
  have hT2 := k_TP_z (p' := k_sb g n p) (wr' := wr) hT
  have hs2 : ∀ c, (h.set z (k_rd tp (k_sb g n p) wr)).set z c = h.set z c := fun c => k_s2 h z _ c
  generalize h.set z (k_rd tp (k_sb g n p) wr) = H at hT2 hs2 ⊢
  obtain ⟨h1, h2, h3, h4⟩ := id hT2
  refine m_J_run hM 3 rfl ⟨trivial, trivial, trivial, trivial⟩ ?_
  refine m_callV (as := [.int (nI 48), .int (nI 57)]) (rest := []) (m_EX_warm E N xs) hM rfl kw_X3_131 rfl rfl (h1) ⟨_, rfl, rfl⟩ (t_rl (by omega) (by omega) hq.2 hT2) rfl (Nat.le_of_ble_eq_true rfl) (Nat.le_of_ble_eq_true rfl) (Nat.le_of_ble_eq_true rfl) (fun ht => ⟨ht, by simp⟩) ?_
  have bad : k_nok g n p lo hi = false → k_nu g n p lo hi = lo ∧ k_nr g n lo hi (p, wr) = (k_sb g n p, k_rf wr (k_sb g n p)) := fun hb => ⟨by rw [k_nu, if_neg (by rw [hb]; decide)], by rw [k_nr, if_neg (by rw [hb]; decide)]⟩
  refine m_J_run hM 4 rfl ⟨trivial, trivial, trivial, trivial, trivial⟩ ?_
  refine m_J_if (fun hc1 => ?_) (fun hc1 => ?_)
  · have hb : k_nok g n p lo hi = false := by
      have : k_rl g n 48 57 (k_sb g n p) < 1 := by
        rcases Nat.lt_or_ge (k_rl g n 48 57 (k_sb g n p)) 1 with q | q
        · exact q
        · exact absurd hc1 (nI_nlt q (by omega))
      exact decide_eq_false (fun q => q.1 this)
    refine m_J_run hM 1 rfl ⟨trivial, trivial⟩ ?_
    refine m_callV (as := []) (rest := []) (m_EX_warm E N xs) hM rfl kw_X3_48 rfl rfl (h1) ⟨_, rfl, rfl⟩ (t_ref hT2) rfl (Nat.le_of_ble_eq_true rfl) (Nat.le_of_ble_eq_true rfl) (Nat.le_of_ble_eq_true rfl) (fun ht => ⟨ht, by simp⟩) ?_
    rw [hs2]
    refine m_J_run hM 1 rfl ⟨trivial, trivial⟩ ?_
    exact m_iret hM rfl rfl rfl (Nat.le_of_ble_eq_true rfl) (Nat.le_of_ble_eq_true rfl) (by rw [(bad hb).1]) (by rw [(bad hb).2])
  · have hd1 : ¬ k_rl g n 48 57 (k_sb g n p) < 1 := fun q => hc1 (nI_lt q (by omega))
    refine m_J_run hM 3 rfl ⟨trivial, trivial, trivial, trivial⟩ ?_
    refine m_J_if (fun hc2 => ?_) (fun hc2 => ?_)
    · have hd2 : k_rl g n 48 57 (k_sb g n p) ≤ 2 := by
        rcases Nat.lt_or_ge 2 (k_rl g n 48 57 (k_sb g n p)) with q | q
        · exact absurd hc2 (nI_ge q (by omega))
        · exact q
      refine m_J_run hM 4 rfl ⟨trivial, trivial, trivial, trivial, trivial⟩ ?_
      generalize hdg : k_rl g n 48 57 (k_sb g n p) = dg at *
      have loop : ∀ f i : Nat, i + f = dg → ∀ PR9 : Option Value → mH → Bool → Prop, (∀ v5, m_J l (m_EX E N xs) E mM_X3_readNumber (d + 2) 0 0 PR9 m_no tg 0 0 (72, [some (.ref z), some (.int (nI lo)), some (.int (nI hi)), some (.int (nI dg)), some (.int (k_nm g n (k_sb g n p) dg)), v5], [], H)) → m_J l (m_EX E N xs) E mM_X3_readNumber (d + 2) 0 0 PR9 m_no tg 0 0 (35, [some (.ref z), some (.int (nI lo)), some (.int (nI hi)), some (.int (nI dg)), some (.int (k_nm g n (k_sb g n p) i)), some (.int (nI i))], [], H) := by
        intro f
        induction f with
        | zero =>
          intro i hi9 PR9 hk
          have e : i = dg := by omega
          subst e
          refine m_J_run hM 3 rfl ⟨trivial, trivial, trivial, trivial⟩ ?_
          refine m_J_if (fun _ => ?_) (fun hc => absurd (nI_le (Nat.le_refl _) (by omega)) hc)
          exact hk _
        | succ f ih =>
          intro i hi9 PR9 hk
          refine m_J_run hM 3 rfl ⟨trivial, trivial, trivial, trivial⟩ ?_
          refine m_J_if (fun hc => absurd hc (nI_ge (by omega) (by omega))) (fun _ => ?_)
          refine m_J_run hM 4 rfl ⟨trivial, trivial, trivial, trivial, trivial⟩ ?_
          refine m_J_getf hM rfl rfl (h1) (rfl) ?_
          refine m_J_run hM 1 rfl ⟨trivial, trivial⟩ ?_
          refine m_J_getf hM rfl rfl (h1) (rfl) ?_
          refine m_J_run hM 2 rfl ⟨trivial, trivial, trivial⟩ ?_
          rw [nI_add]
          refine m_callV (as := [.int (nI (k_sb g n p + i))]) (rest := [.int (nI 10 * k_nm g n (k_sb g n p) i)]) (m_EX_warm E N xs) hM rfl kw_X3_30 rfl rfl (h2) ⟨_, rfl, rfl⟩ (t_at (by omega) h2 h3 h4) rfl (Nat.le_of_ble_eq_true rfl) (Nat.le_of_ble_eq_true rfl) (Nat.le_of_ble_eq_true rfl) (fun ht => ⟨ht, by simp⟩) ?_
          refine m_J_run hM 6 rfl ⟨trivial, trivial, trivial, trivial, trivial, trivial, trivial⟩ ?_
          refine m_eqS (ih (i + 1) (by omega) PR9 hk) ?_
          rw [k_succ i]
          rfl
      refine loop dg 0 (by omega) _ (fun v5 => ?_)
      clear loop
      have fail : k_nok g n p lo hi = false → m_J l (m_EX E N xs) E mM_X3_readNumber (d + 2) 0 0 (m_K (some (.int (nI (k_nu g n p lo hi)))) (h.set z (k_rd tp (k_nr g n lo hi (p, wr)).1 (k_nr g n lo hi (p, wr)).2)) tg) m_no tg 0 0 (84, [some (.ref z), some (.int (nI lo)), some (.int (nI hi)), some (.int (nI dg)), some (.int (k_nm g n (k_sb g n p) dg)), v5], [], H) := by
        intro hb
        refine m_J_run hM 1 rfl ⟨trivial, trivial⟩ ?_
        refine m_callV (as := []) (rest := []) (m_EX_warm E N xs) hM rfl kw_X3_48 rfl rfl (h1) ⟨_, rfl, rfl⟩ (t_ref hT2) rfl (Nat.le_of_ble_eq_true rfl) (Nat.le_of_ble_eq_true rfl) (Nat.le_of_ble_eq_true rfl) (fun ht => ⟨ht, by simp⟩) ?_
        rw [hs2]
        refine m_J_run hM 1 rfl ⟨trivial, trivial⟩ ?_
        exact m_iret hM rfl rfl rfl (Nat.le_of_ble_eq_true rfl) (Nat.le_of_ble_eq_true rfl) (by rw [(bad hb).1]) (by rw [(bad hb).2])
      refine m_J_run hM 3 rfl ⟨trivial, trivial, trivial, trivial⟩ ?_
      refine m_J_if (fun hc3 => ?_) (fun hc3 => ?_)
      · exact fail (decide_eq_false (fun q => q.2.2.1 (by rw [hdg]; exact hc3)))
      · refine m_J_run hM 3 rfl ⟨trivial, trivial, trivial, trivial⟩ ?_
        refine m_J_if (fun hc4 => ?_) (fun hc4 => ?_)
        · have hk : k_nok g n p lo hi = true := decide_eq_true (by rw [hdg]; exact ⟨hd1, hd2, hc3, hc4⟩)
          have hv := hnu.2.2 hk
          refine m_J_run hM 2 rfl ⟨trivial, trivial, trivial⟩ ?_
          refine m_J_getf hM rfl rfl (h1) (rfl) ?_
          refine m_J_run hM 2 rfl ⟨trivial, trivial, trivial⟩ ?_
          rw [nI_add]
          refine m_J_putf hM rfl rfl (h1) (rfl) ?_
          rw [hs2]
          refine m_J_run hM 1 rfl ⟨trivial, trivial⟩ ?_
          exact m_iret hM rfl rfl rfl (Nat.le_of_ble_eq_true rfl) (Nat.le_of_ble_eq_true rfl) (hv) (by rw [k_nr, if_pos hk]; dsimp only; rw [hdg]; rfl)
        · exact fail (decide_eq_false (fun q => hc4 (by rw [← hdg]; exact q.2.2.2)))
    · have hb : k_nok g n p lo hi = false := decide_eq_false (fun q => hc2 (nI_le q.2.1 (by omega)))
      refine m_J_run hM 1 rfl ⟨trivial, trivial⟩ ?_
      refine m_callV (as := []) (rest := []) (m_EX_warm E N xs) hM rfl kw_X3_48 rfl rfl (h1) ⟨_, rfl, rfl⟩ (t_ref hT2) rfl (Nat.le_of_ble_eq_true rfl) (Nat.le_of_ble_eq_true rfl) (Nat.le_of_ble_eq_true rfl) (fun ht => ⟨ht, by simp⟩) ?_
      rw [hs2]
      refine m_J_run hM 1 rfl ⟨trivial, trivial⟩ ?_
      exact m_iret hM rfl rfl rfl (Nat.le_of_ble_eq_true rfl) (Nat.le_of_ble_eq_true rfl) (by rw [(bad hb).1]) (by rw [(bad hb).2])
end
end
section
/-! READER: lines -/
section
variable {l : Launch} {E : mE} {N : Nat} {xs : Nat → Int32} {d : Nat} {tg : Bool} {h : mH} {z tp tb : Nat} {R : kR} {n : Nat} {g : Nat → Int32}
set_option maxHeartbeats 1000000 in
theorem t_use (hp : R.1 ≤ n) (hT : k_TP h z tp tb R.1 R.2 n g) : m_Dt l (m_EX E N xs) E mM_X3_readUse (d + 5) 0 0 [.ref z] h tg (some (.int (nI (k_ru g n R).1))) (h.set z (k_rd tp (k_ru g n R).2.1 (k_ru g n R).2.2)) tg := by
  have hM := mM_X3_readUse_ok
  obtain ⟨p, wr⟩ := R
  dsimp only at hp hT ⊢
  unfold k_ru
  dsimp only
  refine m_Sp_of (by decide) (Nat.le_of_ble_eq_true rfl) ?_
  have hs0 : ∀ c, h.set z c = h.set z c := fun _ => rfl
  have hT0 := hT
  refine m_J_run hM 1 rfl ⟨trivial, trivial⟩ ?_
  refine m_J_ldcS (si := 4) hM rfl rfl ?_
  refine m_callV (as := [.ref (1000001 + 4)]) (rest := []) (m_EX_warm E N xs) hM rfl kw_X3_53 rfl rfl (hT.1) ⟨_, rfl, rfl⟩ (t_sw (R := (p, wr)) (by decide) hp hT) rfl (Nat.le_of_ble_eq_true rfl) (Nat.le_of_ble_eq_true rfl) (Nat.le_of_ble_eq_true rfl) (fun ht => ⟨ht, by simp⟩) ?_
  replace hT := k_TP_z (p' := k_swp g n (p) 4) (wr' := wr) hT
  replace hp := k_swp_le (g := g) (si := 4) hp
  refine m_J_run hM 1 rfl ⟨trivial, trivial⟩ ?_
  refine m_J_if (fun hc => ?_) (fun hc => ?_)
  case refine_2 =>
    have hc2 := k_z1 hc
    rw [if_pos hc2]
    refine m_J_run hM 1 rfl ⟨trivial, trivial⟩ ?_
    exact m_iret hM rfl rfl rfl (Nat.le_of_ble_eq_true rfl) (Nat.le_of_ble_eq_true rfl) (rfl) (rfl)
  have hc2 := k_z0 hc
  rw [if_neg (by rw [hc2]; decide)]
  clear hc hc2
  refine m_J_run hM 1 rfl ⟨trivial, trivial⟩ ?_
  refine m_J_ldcS (si := 5) hM rfl rfl ?_
  refine m_callV (as := [.ref (1000001 + 5)]) (rest := []) (m_EX_warm E N xs) hM rfl kw_X3_53 rfl rfl (hT.1) ⟨_, rfl, rfl⟩ (t_sw (R := (k_swp g n (p) 4, wr)) (by decide) hp hT) rfl (Nat.le_of_ble_eq_true rfl) (Nat.le_of_ble_eq_true rfl) (Nat.le_of_ble_eq_true rfl) (fun ht => ⟨ht, by simp⟩) ?_
  replace hT := k_TP_z (p' := k_swp g n (k_swp g n (p) 4) 5) (wr' := wr) hT
  replace hp := k_swp_le (g := g) (si := 5) hp
  rw [k_s2] at hT ⊢
  refine m_J_run hM 1 rfl ⟨trivial, trivial⟩ ?_
  refine m_J_if (fun hc => ?_) (fun hc => ?_)
  case refine_2 =>
    have hc2 := k_z1 hc
    rw [if_pos hc2]
    refine m_J_run hM 1 rfl ⟨trivial, trivial⟩ ?_
    exact m_iret hM rfl rfl rfl (Nat.le_of_ble_eq_true rfl) (Nat.le_of_ble_eq_true rfl) (rfl) (rfl)
  have hc2 := k_z0 hc
  rw [if_neg (by rw [hc2]; decide)]
  clear hc hc2
  refine m_J_run hM 1 rfl ⟨trivial, trivial⟩ ?_
  refine m_J_ldcS (si := 6) hM rfl rfl ?_
  refine m_callV (as := [.ref (1000001 + 6)]) (rest := []) (m_EX_warm E N xs) hM rfl kw_X3_53 rfl rfl (hT.1) ⟨_, rfl, rfl⟩ (t_sw (R := (k_swp g n (k_swp g n (p) 4) 5, wr)) (by decide) hp hT) rfl (Nat.le_of_ble_eq_true rfl) (Nat.le_of_ble_eq_true rfl) (Nat.le_of_ble_eq_true rfl) (fun ht => ⟨ht, by simp⟩) ?_
  replace hT := k_TP_z (p' := k_swp g n (k_swp g n (k_swp g n (p) 4) 5) 6) (wr' := wr) hT
  replace hp := k_swp_le (g := g) (si := 6) hp
  rw [k_s2] at hT ⊢
  refine m_J_run hM 1 rfl ⟨trivial, trivial⟩ ?_
  refine m_J_if (fun hc => ?_) (fun hc => ?_)
  case refine_2 =>
    have hc2 := k_z1 hc
    rw [if_pos hc2]
    refine m_J_run hM 1 rfl ⟨trivial, trivial⟩ ?_
    exact m_iret hM rfl rfl rfl (Nat.le_of_ble_eq_true rfl) (Nat.le_of_ble_eq_true rfl) (rfl) (rfl)
  have hc2 := k_z0 hc
  rw [if_neg (by rw [hc2]; decide)]
  clear hc hc2
  refine m_J_run hM 1 rfl ⟨trivial, trivial⟩ ?_
  refine m_J_ldcS (si := 7) hM rfl rfl ?_
  refine m_callV (as := [.ref (1000001 + 7)]) (rest := []) (m_EX_warm E N xs) hM rfl kw_X3_53 rfl rfl (hT.1) ⟨_, rfl, rfl⟩ (t_sw (R := (k_swp g n (k_swp g n (k_swp g n (p) 4) 5) 6, wr)) (by decide) hp hT) rfl (Nat.le_of_ble_eq_true rfl) (Nat.le_of_ble_eq_true rfl) (Nat.le_of_ble_eq_true rfl) (fun ht => ⟨ht, by simp⟩) ?_
  replace hT := k_TP_z (p' := k_swp g n (k_swp g n (k_swp g n (k_swp g n (p) 4) 5) 6) 7) (wr' := wr) hT
  replace hp := k_swp_le (g := g) (si := 7) hp
  rw [k_s2] at hT ⊢
  refine m_J_run hM 1 rfl ⟨trivial, trivial⟩ ?_
  refine m_J_if (fun hc => ?_) (fun hc => ?_)
  case refine_2 =>
    have hc2 := k_z1 hc
    rw [if_pos hc2]
    refine m_J_run hM 1 rfl ⟨trivial, trivial⟩ ?_
    exact m_iret hM rfl rfl rfl (Nat.le_of_ble_eq_true rfl) (Nat.le_of_ble_eq_true rfl) (rfl) (rfl)
  have hc2 := k_z0 hc
  rw [if_neg (by rw [hc2]; decide)]
  clear hc hc2
  refine m_J_run hM 1 rfl ⟨trivial, trivial⟩ ?_
  refine m_J_ldcS (si := 8) hM rfl rfl ?_
  refine m_callV (as := [.ref (1000001 + 8)]) (rest := []) (m_EX_warm E N xs) hM rfl kw_X3_53 rfl rfl (hT.1) ⟨_, rfl, rfl⟩ (t_sw (R := (k_swp g n (k_swp g n (k_swp g n (k_swp g n (p) 4) 5) 6) 7, wr)) (by decide) hp hT) rfl (Nat.le_of_ble_eq_true rfl) (Nat.le_of_ble_eq_true rfl) (Nat.le_of_ble_eq_true rfl) (fun ht => ⟨ht, by simp⟩) ?_
  replace hT := k_TP_z (p' := k_swp g n (k_swp g n (k_swp g n (k_swp g n (k_swp g n (p) 4) 5) 6) 7) 8) (wr' := wr) hT
  replace hp := k_swp_le (g := g) (si := 8) hp
  rw [k_s2] at hT ⊢
  refine m_J_run hM 1 rfl ⟨trivial, trivial⟩ ?_
  refine m_J_if (fun hc => ?_) (fun hc => ?_)
  case refine_2 =>
    have hc2 := k_z1 hc
    rw [if_pos hc2]
    refine m_J_run hM 1 rfl ⟨trivial, trivial⟩ ?_
    exact m_iret hM rfl rfl rfl (Nat.le_of_ble_eq_true rfl) (Nat.le_of_ble_eq_true rfl) (rfl) (rfl)
  have hc2 := k_z0 hc
  rw [if_neg (by rw [hc2]; decide)]
  clear hc hc2
  refine m_J_run hM 1 rfl ⟨trivial, trivial⟩ ?_
  refine m_callV (as := []) (rest := []) (m_EX_warm E N xs) hM rfl kw_X3_48 rfl rfl (hT.1) ⟨_, rfl, rfl⟩ (t_ref hT) rfl (Nat.le_of_ble_eq_true rfl) (Nat.le_of_ble_eq_true rfl) (Nat.le_of_ble_eq_true rfl) (fun ht => ⟨ht, by simp⟩) ?_
  rw [k_s2]
  refine m_J_run hM 1 rfl ⟨trivial, trivial⟩ ?_
  exact m_iret hM rfl rfl rfl (Nat.le_of_ble_eq_true rfl) (Nat.le_of_ble_eq_true rfl) (rfl) (rfl)
theorem t_word {si : Nat} (hi : si < 42) (hp : R.1 ≤ n) (hT : k_TP h z tp tb R.1 R.2 n g) : m_Dt l (m_EX E N xs) E mM_X3_readWord (d + 5) 0 0 [.ref z, .ref (1000001 + si)] h tg none (h.set z (k_rd tp (k_rw g n si R).1 (k_rw g n si R).2)) tg := by
  have hM := mM_X3_readWord_ok
  refine m_Sp_of (by decide) (Nat.le_of_ble_eq_true rfl) ?_
  refine m_J_run hM 2 rfl ⟨trivial, trivial, trivial⟩ ?_
  refine m_callV (as := [.ref (1000001 + si)]) (rest := []) (m_EX_warm E N xs) hM rfl kw_X3_53 rfl rfl (hT.1) ⟨_, rfl, rfl⟩ (t_sw hi hp hT) rfl (Nat.le_of_ble_eq_true rfl) (Nat.le_of_ble_eq_true rfl) (Nat.le_of_ble_eq_true rfl) (fun ht => ⟨ht, by simp⟩) ?_
  refine m_J_run hM 1 rfl ⟨trivial, trivial⟩ ?_
  refine m_J_if (fun hc => ?_) (fun hc => ?_)
  · have hc2 := k_z1 hc
    exact m_vret hM rfl rfl (Nat.le_of_ble_eq_true rfl) (Nat.le_of_ble_eq_true rfl) (by rw [k_rw, if_pos hc2])
  · have hc2 := k_z0 (Classical.not_not.mp hc)
    have hT2 := k_TP_z (p' := k_swp g n R.1 si) (wr' := R.2) hT
    refine m_J_run hM 1 rfl ⟨trivial, trivial⟩ ?_
    refine m_callV (as := []) (rest := []) (m_EX_warm E N xs) hM rfl kw_X3_48 rfl rfl (hT2.1) ⟨_, rfl, rfl⟩ (t_ref hT2) rfl (Nat.le_of_ble_eq_true rfl) (Nat.le_of_ble_eq_true rfl) (Nat.le_of_ble_eq_true rfl) (fun ht => ⟨ht, by simp⟩) ?_
    rw [k_s2]
    exact m_vret hM rfl rfl (Nat.le_of_ble_eq_true rfl) (Nat.le_of_ble_eq_true rfl) (by rw [k_rw, if_neg (by rw [hc2]; decide)])
end
end
section
/-- two ways that come together -/
theorem m_J_join {l : Launch} {EX : State → Prop} {E : mE} {M : mM} {d mc ms : Nat} {PR : Option Value → mH → Bool → Prop} {PX : String → mH → Prop} {tg : Bool} {kc ks : Nat} {S S2 : mS} (h : m_J l EX E M d mc ms PR PX tg kc ks S2 → m_J l EX E M d mc ms PR PX tg kc ks S) (h2 : m_J l EX E M d mc ms PR PX tg kc ks S2) : m_J l EX E M d mc ms PR PX tg kc ks S := h h2
/-! READER: the kinds of line (written by wip/gen_lines.py) -/
def k_RL (H : mH) (z tp tb n : Nat) (g : Nat → Int32) (c : Nat) (R : kR) (q : kL) : Prop := k_TP H z tp tb R.1 R.2 n g ∧ H[c]? = some (k_ln q) ∧ R.1 ≤ n ∧ k_lok q
theorem k_RL_z {H : mH} {z tp tb n : Nat} {g : Nat → Int32} {c : Nat} {R R' : kR} {q : kL} (h : k_RL H z tp tb n g c R q) (hp : R'.1 ≤ n) : k_RL (H.set z (k_rd tp R'.1 R'.2)) z tp tb n g c R' q :=
  ⟨k_TP_z h.1, k_sn (k_neO h.2.1 h.1.1 (by simp)) h.2.1, hp, h.2.2.2⟩
theorem k_RL_c {H : mH} {z tp tb n : Nat} {g : Nat → Int32} {c : Nat} {R : kR} {q q' : kL} (h : k_RL H z tp tb n g c R q) (hq : k_lok q') : k_RL (H.set c (k_ln q')) z tp tb n g c R q' := by
  obtain ⟨⟨h1, h2, h3, h4⟩, h5, h6⟩ := h
  exact ⟨⟨k_sn (k_neO h1 h5 (by simp)) h1, k_sn (k_neO h2 h5 (by simp)) h2, k_sn (Ne.symm (k_ne h5 h3)) h3, h4⟩, k_ss h5, h6.1, hq⟩
/-- the same line with the number of another kind -/
def k_refuse (R : kR) : kR := (R.1, k_rf R.2 R.1)
def k_step (g : Nat → Int32) (n si : Nat) (R : kR) : kR := (k_swp g n R.1 si, R.2)
theorem k_step_le {g : Nat → Int32} {n si : Nat} {R : kR} (hp : R.1 ≤ n) : (k_step g n si R).1 ≤ n := k_swp_le hp
def k_rlaw (g : Nat → Int32) (n : Nat) (q : kL) (R : kR) : kL × kR :=
  let U := k_ru g n R
  let q1 : kL := (q.1, U.1, q.2.2)
  let R9 := k_step g n 9 U.2
  let R10 := k_step g n 10 R9
  let R11 := k_step g n 11 R10
  let R12 := k_step g n 12 R11
  if k_swb g n U.2.1 9 then
    (let V := k_ru g n R9
     ((2, U.1, V.1, q.2.2.2.1, k_nu g n V.2.1 1 5, q.2.2.2.2.2), k_nr g n 1 5 V.2))
  else if k_swb g n R9.1 10 then ((3, U.1, q.2.2.1, q.2.2.2.1, q.2.2.2.2.1, q.2.2.2.2.2.1, nI (k_nu g n R10.1 0 99)), k_nr g n 0 99 R10)
  else if k_swb g n R10.1 11 then ((4, U.1, q.2.2.1, q.2.2.2.1, q.2.2.2.2.1, q.2.2.2.2.2.1, nI (k_nu g n R11.1 0 99)), k_nr g n 0 99 R11)
  else if k_swb g n R11.1 12 then ((5, U.1, q.2.2), R12)
  else (q1, k_refuse R12)
def k_rworth (g : Nat → Int32) (n : Nat) (q : kL) (R : kR) : kL × kR :=
  let U := k_ru g n R
  let Rm := k_step g n 17 U.2
  let nu : Int32 := (if k_swb g n U.2.1 17 then -nI 1 else nI 1) * nI (k_nu g n Rm.1 0 99)
  let Rn := k_nr g n 0 99 Rm
  let R16 := k_step g n 16 Rn
  let R18 := k_step g n 18 R16
  if k_swb g n Rn.1 16 then
    (let V := k_ru g n R16
     ((0, U.1, V.1, q.2.2.2.1, k_nu g n V.2.1 1 5, q.2.2.2.2.2.1, nu), k_nr g n 1 5 V.2))
  else if k_swb g n R16.1 18 then ((1, U.1, q.2.2.1, q.2.2.2.1, q.2.2.2.2.1, k_nu g n R18.1 0 9, nu), k_nr g n 0 9 R18)
  else ((q.1, U.1, q.2.2.1, q.2.2.2.1, q.2.2.2.2.1, q.2.2.2.2.2.1, nu), k_refuse R18)
def k_rgrow (g : Nat → Int32) (n : Nat) (q : kL) (R : kR) : kL × kR :=
  let U := k_ru g n R
  let V := k_ru g n (k_rw g n 14 U.2)
  let W := k_ru g n (k_rw g n 15 V.2)
  let Rs := k_rw g n 16 W.2
  let Rn := k_nr g n 1 5 Rs
  ((6, U.1, W.1, V.1, k_nu g n Rs.1 1 5, q.2.2.2.2.2.1, nI (k_nu g n Rn.1 1 60)), k_nr g n 1 60 Rn)
def k_rline (g : Nat → Int32) (n : Nat) (q : kL) (R : kR) : kL × kR :=
  let R3 := k_step g n 3 R
  let R13 := k_step g n 13 R3
  if k_swb g n R.1 3 then k_rlaw g n q R3 else if k_swb g n R3.1 13 then k_rgrow g n q R13 else k_rworth g n q R13
section
variable {l : Launch} {E : mE} {N : Nat} {xs : Nat → Int32} {d : Nat} {tg : Bool} {h : mH} {z tp tb : Nat} {R : kR} {n : Nat} {g : Nat → Int32} {c : Nat} {q : kL}
set_option maxHeartbeats 2000000 in
theorem t_law (hA : k_RL h z tp tb n g c R q) : m_Sp l (m_EX E N xs) E mM_X3_readLaw (d + 6) 0 0 [.ref z, .ref c] h tg (fun v H tg' => v = none ∧ tg' = tg ∧ k_RL H z tp tb n g c (k_rlaw g n q R).2 (k_rlaw g n q R).1 ∧ k_fr [z, c] h H) m_no := by
  have hM := mM_X3_readLaw_ok
  unfold k_rlaw
  dsimp only
  refine m_Sp_of (by decide) (Nat.le_of_ble_eq_true rfl) ?_
  obtain ⟨H, hH⟩ : ∃ H, H = h := ⟨h, rfl⟩
  have hF : k_fr [z, c] h H := by rw [hH]; exact k_fr_r _ h
  rw [← hH] at hA
  rw [show (0, m_ent [Value.ref z, Value.ref c] mM_X3_readLaw.2.2.1, ([] : List Value), h) = (0, m_ent [Value.ref z, Value.ref c] mM_X3_readLaw.2.2.1, [], H) by rw [hH]]
  clear hH
  have hu := (k_ru_le (g := g) hA.2.2.1).2
  refine m_J_run hM 2 rfl ⟨trivial, trivial, trivial⟩ ?_
  refine m_callV (as := []) (rest := [.ref c]) (m_EX_warm E N xs) hM rfl kw_X3_68 rfl rfl (hA.1.1) ⟨_, rfl, rfl⟩ (t_use (R := R) hA.2.2.1 hA.1) rfl (Nat.le_of_ble_eq_true rfl) (Nat.le_of_ble_eq_true rfl) (Nat.le_of_ble_eq_true rfl) (fun ht => ⟨ht, by simp⟩) ?_
  replace hA := k_RL_z (R' := (k_ru g n R).2) hA (k_ru_le hA.2.2.1).1
  replace hF := k_fr_s (k := z) (c := k_rd tp (k_ru g n R).2.1 (k_ru g n R).2.2) hF (by simp)
  show m_J _ _ _ _ _ _ _ _ _ _ _ _ (_, _, _, H.set z (k_rd tp (k_ru g n R).2.1 (k_ru g n R).2.2))
  generalize H.set z (k_rd tp (k_ru g n R).2.1 (k_ru g n R).2.2) = H at hA hF ⊢
  refine m_J_putf hM rfl rfl (hA.2.1) (rfl) ?_
  replace hA := k_RL_c (q' := (q.1, (k_ru g n R).1, q.2.2)) hA (⟨hA.2.2.2.1, hu, hA.2.2.2.2.2.1, hA.2.2.2.2.2.2.1, hA.2.2.2.2.2.2.2.1, hA.2.2.2.2.2.2.2.2.1, hA.2.2.2.2.2.2.2.2.2⟩)
  replace hF := k_fr_s (k := c) (c := k_ln (q.1, (k_ru g n R).1, q.2.2)) hF (by simp)
  show m_J _ _ _ _ _ _ _ _ _ _ _ _ (_, _, _, H.set c (k_ln (q.1, (k_ru g n R).1, q.2.2)))
  generalize H.set c (k_ln (q.1, (k_ru g n R).1, q.2.2)) = H at hA hF ⊢
  refine m_J_run hM 1 rfl ⟨trivial, trivial⟩ ?_
  refine m_J_ldcS (si := 9) hM rfl rfl ?_
  refine m_callV (as := [.ref (1000001 + 9)]) (rest := []) (m_EX_warm E N xs) hM rfl kw_X3_53 rfl rfl (hA.1.1) ⟨_, rfl, rfl⟩ (t_sw (R := (k_ru g n R).2) (by decide) hA.2.2.1 hA.1) rfl (Nat.le_of_ble_eq_true rfl) (Nat.le_of_ble_eq_true rfl) (Nat.le_of_ble_eq_true rfl) (fun ht => ⟨ht, by simp⟩) ?_
  replace hA := k_RL_z (R' := k_step g n 9 (k_ru g n R).2) hA (k_step_le hA.2.2.1)
  replace hF := k_fr_s (k := z) (c := k_rd tp (k_step g n 9 (k_ru g n R).2).1 (k_step g n 9 (k_ru g n R).2).2) hF (by simp)
  show m_J _ _ _ _ _ _ _ _ _ _ _ _ (_, _, _, H.set z (k_rd tp (k_step g n 9 (k_ru g n R).2).1 (k_step g n 9 (k_ru g n R).2).2))
  generalize H.set z (k_rd tp (k_step g n 9 (k_ru g n R).2).1 (k_step g n 9 (k_ru g n R).2).2) = H at hA hF ⊢
  refine m_J_run hM 1 rfl ⟨trivial, trivial⟩ ?_
  refine m_J_if (fun hc => ?_) (fun hc => ?_)
  case refine_2 =>
    have hc2 := k_z1 hc
    rw [if_pos hc2]
    have hv := (k_ru_le (g := g) hA.2.2.1).2
    refine m_J_run hM 2 rfl ⟨trivial, trivial, trivial⟩ ?_
    refine m_J_putf hM rfl rfl (hA.2.1) (rfl) ?_
    have hA2 := hA.2.1
    have hT0 := hA.1
    have hcz := k_neO hA.2.1 hA.1.1 (by simp)
    have hlk := hA.2.2.2
    have hT1 : k_TP (H.set c (k_ln (2, (k_ru g n R).1, q.2.2))) z tp tb (k_step g n 9 (k_ru g n R).2).1 (k_step g n 9 (k_ru g n R).2).2 n g := by obtain ⟨a1, a2, a3, a4⟩ := hT0; exact ⟨k_sn (Ne.symm hcz) a1, k_sn (k_neO a2 hA2 (by simp)) a2, k_sn (Ne.symm (k_ne hA2 a3)) a3, a4⟩
    have hc1 : (H.set c (k_ln (2, (k_ru g n R).1, q.2.2)))[c]? = some (k_ln (2, (k_ru g n R).1, q.2.2)) := k_ss hA2
    have hp9 := hA.2.2.1
    replace hF := k_fr_s (k := c) (c := k_ln (2, (k_ru g n R).1, q.2.2)) hF (by simp)
    show m_J _ _ _ _ _ _ _ _ _ _ _ _ (_, _, _, H.set c (k_ln (2, (k_ru g n R).1, q.2.2)))
    clear hA hA2 hT0
    generalize H.set c (k_ln (2, (k_ru g n R).1, q.2.2)) = H at hT1 hc1 hF ⊢
    refine m_J_run hM 2 rfl ⟨trivial, trivial, trivial⟩ ?_
    refine m_callV (as := []) (rest := [.ref c]) (m_EX_warm E N xs) hM rfl kw_X3_68 rfl rfl (hT1.1) ⟨_, rfl, rfl⟩ (t_use (R := k_step g n 9 (k_ru g n R).2) hp9 hT1) rfl (Nat.le_of_ble_eq_true rfl) (Nat.le_of_ble_eq_true rfl) (Nat.le_of_ble_eq_true rfl) (fun ht => ⟨ht, by simp⟩) ?_
    replace hc1 := k_sn (z := k_rd tp (k_ru g n (k_step g n 9 (k_ru g n R).2)).2.1 (k_ru g n (k_step g n 9 (k_ru g n R).2)).2.2) hcz hc1
    replace hT1 := k_TP_z (p' := (k_ru g n (k_step g n 9 (k_ru g n R).2)).2.1) (wr' := (k_ru g n (k_step g n 9 (k_ru g n R).2)).2.2) hT1
    replace hp9 := (k_ru_le (g := g) hp9).1
    replace hF := k_fr_s (k := z) (c := k_rd tp (k_ru g n (k_step g n 9 (k_ru g n R).2)).2.1 (k_ru g n (k_step g n 9 (k_ru g n R).2)).2.2) hF (by simp)
    generalize H.set z (k_rd tp (k_ru g n (k_step g n 9 (k_ru g n R).2)).2.1 (k_ru g n (k_step g n 9 (k_ru g n R).2)).2.2) = H at hT1 hc1 hF ⊢
    generalize hV : k_ru g n (k_step g n 9 (k_ru g n R).2) = V at *
    refine m_J_putf hM rfl rfl (hc1) (rfl) ?_
    replace hT1 : k_TP (H.set c (k_ln (2, (k_ru g n R).1, V.1, q.2.2.2))) z tp tb V.2.1 V.2.2 n g := by obtain ⟨a1, a2, a3, a4⟩ := hT1; exact ⟨k_sn (Ne.symm hcz) a1, k_sn (k_neO a2 hc1 (by simp)) a2, k_sn (Ne.symm (k_ne hc1 a3)) a3, a4⟩
    replace hc1 : (H.set c (k_ln (2, (k_ru g n R).1, V.1, q.2.2.2)))[c]? = some (k_ln (2, (k_ru g n R).1, V.1, q.2.2.2)) := k_ss hc1
    replace hF := k_fr_s (k := c) (c := k_ln (2, (k_ru g n R).1, V.1, q.2.2.2)) hF (by simp)
    show m_J _ _ _ _ _ _ _ _ _ _ _ _ (_, _, _, H.set c (k_ln (2, (k_ru g n R).1, V.1, q.2.2.2)))
    generalize H.set c (k_ln (2, (k_ru g n R).1, V.1, q.2.2.2)) = H at hT1 hc1 hF ⊢
    refine m_J_run hM 4 rfl ⟨trivial, trivial, trivial, trivial, trivial⟩ ?_
    refine m_callV (as := [.int (nI 1), .int (nI 5)]) (rest := [.ref c]) (m_EX_warm E N xs) hM rfl kw_X3_79 rfl rfl (hT1.1) ⟨_, rfl, rfl⟩ (t_num (R := V.2) (by omega) (by omega) hp9 hT1) rfl (Nat.le_of_ble_eq_true rfl) (Nat.le_of_ble_eq_true rfl) (Nat.le_of_ble_eq_true rfl) (fun ht => ⟨ht, by simp⟩) ?_
    have hnu := k_nu_ok (g := g) (n := n) (p := V.2.1) (lo := 1) (hi := 5) (by omega) (by omega)
    replace hc1 := k_sn (z := k_rd tp (k_nr g n 1 5 V.2).1 (k_nr g n 1 5 V.2).2) hcz hc1
    replace hT1 := k_TP_z (p' := (k_nr g n 1 5 V.2).1) (wr' := (k_nr g n 1 5 V.2).2) hT1
    replace hp9 := k_nr_le (g := g) (lo := 1) (hi := 5) hp9
    replace hF := k_fr_s (k := z) (c := k_rd tp (k_nr g n 1 5 V.2).1 (k_nr g n 1 5 V.2).2) hF (by simp)
    generalize H.set z (k_rd tp (k_nr g n 1 5 V.2).1 (k_nr g n 1 5 V.2).2) = H at hT1 hc1 hF ⊢
    refine m_J_putf hM rfl rfl (hc1) (rfl) ?_
    refine m_J_run hM 1 rfl ⟨trivial, trivial⟩ ?_
    refine m_J_vret hM rfl rfl (Nat.le_refl _) (Nat.le_refl _) ⟨rfl, rfl, ⟨?_, k_ss hc1, hp9, ⟨(by simp), hu, hv, hlk.2.2.2.1, hnu.2.1, hlk.2.2.2.2.2.1, fun _ => hnu.1⟩⟩, k_fr_s hF (by simp)⟩
    obtain ⟨a1, a2, a3, a4⟩ := hT1
    exact ⟨k_sn (Ne.symm hcz) a1, k_sn (k_neO a2 hc1 (by simp)) a2, k_sn (Ne.symm (k_ne hc1 a3)) a3, a4⟩
  have hc2 := k_z0 hc
  rw [if_neg (by rw [hc2]; decide)]
  clear hc hc2
  refine m_J_run hM 1 rfl ⟨trivial, trivial⟩ ?_
  refine m_J_ldcS (si := 10) hM rfl rfl ?_
  refine m_callV (as := [.ref (1000001 + 10)]) (rest := []) (m_EX_warm E N xs) hM rfl kw_X3_53 rfl rfl (hA.1.1) ⟨_, rfl, rfl⟩ (t_sw (R := (k_step g n 9 (k_ru g n R).2)) (by decide) hA.2.2.1 hA.1) rfl (Nat.le_of_ble_eq_true rfl) (Nat.le_of_ble_eq_true rfl) (Nat.le_of_ble_eq_true rfl) (fun ht => ⟨ht, by simp⟩) ?_
  replace hA := k_RL_z (R' := k_step g n 10 (k_step g n 9 (k_ru g n R).2)) hA (k_step_le hA.2.2.1)
  replace hF := k_fr_s (k := z) (c := k_rd tp (k_step g n 10 (k_step g n 9 (k_ru g n R).2)).1 (k_step g n 10 (k_step g n 9 (k_ru g n R).2)).2) hF (by simp)
  show m_J _ _ _ _ _ _ _ _ _ _ _ _ (_, _, _, H.set z (k_rd tp (k_step g n 10 (k_step g n 9 (k_ru g n R).2)).1 (k_step g n 10 (k_step g n 9 (k_ru g n R).2)).2))
  generalize H.set z (k_rd tp (k_step g n 10 (k_step g n 9 (k_ru g n R).2)).1 (k_step g n 10 (k_step g n 9 (k_ru g n R).2)).2) = H at hA hF ⊢
  refine m_J_run hM 1 rfl ⟨trivial, trivial⟩ ?_
  refine m_J_if (fun hc => ?_) (fun hc => ?_)
  case refine_2 =>
    have hc2 := k_z1 hc
    rw [if_pos hc2]
    refine m_J_run hM 2 rfl ⟨trivial, trivial, trivial⟩ ?_
    refine m_J_putf hM rfl rfl (hA.2.1) (rfl) ?_
    replace hA := k_RL_c (q' := (3, (k_ru g n R).1, q.2.2)) hA (⟨by simp, hA.2.2.2.2.1, hA.2.2.2.2.2.1, hA.2.2.2.2.2.2.1, hA.2.2.2.2.2.2.2.1, hA.2.2.2.2.2.2.2.2.1, fun h => absurd h (by simp)⟩)
    replace hF := k_fr_s (k := c) (c := k_ln (3, (k_ru g n R).1, q.2.2)) hF (by simp)
    show m_J _ _ _ _ _ _ _ _ _ _ _ _ (_, _, _, H.set c (k_ln (3, (k_ru g n R).1, q.2.2)))
    generalize H.set c (k_ln (3, (k_ru g n R).1, q.2.2)) = H at hA hF ⊢
    refine m_J_run hM 4 rfl ⟨trivial, trivial, trivial, trivial, trivial⟩ ?_
    refine m_callV (as := [.int (nI 0), .int (nI 99)]) (rest := [.ref c]) (m_EX_warm E N xs) hM rfl kw_X3_79 rfl rfl (hA.1.1) ⟨_, rfl, rfl⟩ (t_num (R := (k_step g n 10 (k_step g n 9 (k_ru g n R).2))) (by omega) (by omega) hA.2.2.1 hA.1) rfl (Nat.le_of_ble_eq_true rfl) (Nat.le_of_ble_eq_true rfl) (Nat.le_of_ble_eq_true rfl) (fun ht => ⟨ht, by simp⟩) ?_
    replace hA := k_RL_z (R' := k_nr g n 0 99 (k_step g n 10 (k_step g n 9 (k_ru g n R).2))) hA (k_nr_le hA.2.2.1)
    replace hF := k_fr_s (k := z) (c := k_rd tp (k_nr g n 0 99 (k_step g n 10 (k_step g n 9 (k_ru g n R).2))).1 (k_nr g n 0 99 (k_step g n 10 (k_step g n 9 (k_ru g n R).2))).2) hF (by simp)
    show m_J _ _ _ _ _ _ _ _ _ _ _ _ (_, _, _, H.set z (k_rd tp (k_nr g n 0 99 (k_step g n 10 (k_step g n 9 (k_ru g n R).2))).1 (k_nr g n 0 99 (k_step g n 10 (k_step g n 9 (k_ru g n R).2))).2))
    generalize H.set z (k_rd tp (k_nr g n 0 99 (k_step g n 10 (k_step g n 9 (k_ru g n R).2))).1 (k_nr g n 0 99 (k_step g n 10 (k_step g n 9 (k_ru g n R).2))).2) = H at hA hF ⊢
    refine m_J_putf hM rfl rfl (hA.2.1) (rfl) ?_
    replace hA := k_RL_c (q' := (3, (k_ru g n R).1, q.2.2.1, q.2.2.2.1, q.2.2.2.2.1, q.2.2.2.2.2.1, nI (k_nu g n (k_step g n 10 (k_step g n 9 (k_ru g n R).2)).1 0 99))) hA (⟨hA.2.2.2.1, hA.2.2.2.2.1, hA.2.2.2.2.2.1, hA.2.2.2.2.2.2.1, hA.2.2.2.2.2.2.2.1, hA.2.2.2.2.2.2.2.2.1, hA.2.2.2.2.2.2.2.2.2⟩)
    replace hF := k_fr_s (k := c) (c := k_ln (3, (k_ru g n R).1, q.2.2.1, q.2.2.2.1, q.2.2.2.2.1, q.2.2.2.2.2.1, nI (k_nu g n (k_step g n 10 (k_step g n 9 (k_ru g n R).2)).1 0 99))) hF (by simp)
    show m_J _ _ _ _ _ _ _ _ _ _ _ _ (_, _, _, H.set c (k_ln (3, (k_ru g n R).1, q.2.2.1, q.2.2.2.1, q.2.2.2.2.1, q.2.2.2.2.2.1, nI (k_nu g n (k_step g n 10 (k_step g n 9 (k_ru g n R).2)).1 0 99))))
    generalize H.set c (k_ln (3, (k_ru g n R).1, q.2.2.1, q.2.2.2.1, q.2.2.2.2.1, q.2.2.2.2.2.1, nI (k_nu g n (k_step g n 10 (k_step g n 9 (k_ru g n R).2)).1 0 99))) = H at hA hF ⊢
    refine m_J_run hM 1 rfl ⟨trivial, trivial⟩ ?_
    exact m_J_vret hM rfl rfl (Nat.le_refl _) (Nat.le_refl _) ⟨rfl, rfl, hA, hF⟩
  have hc2 := k_z0 hc
  rw [if_neg (by rw [hc2]; decide)]
  clear hc hc2
  refine m_J_run hM 1 rfl ⟨trivial, trivial⟩ ?_
  refine m_J_ldcS (si := 11) hM rfl rfl ?_
  refine m_callV (as := [.ref (1000001 + 11)]) (rest := []) (m_EX_warm E N xs) hM rfl kw_X3_53 rfl rfl (hA.1.1) ⟨_, rfl, rfl⟩ (t_sw (R := (k_step g n 10 (k_step g n 9 (k_ru g n R).2))) (by decide) hA.2.2.1 hA.1) rfl (Nat.le_of_ble_eq_true rfl) (Nat.le_of_ble_eq_true rfl) (Nat.le_of_ble_eq_true rfl) (fun ht => ⟨ht, by simp⟩) ?_
  replace hA := k_RL_z (R' := k_step g n 11 (k_step g n 10 (k_step g n 9 (k_ru g n R).2))) hA (k_step_le hA.2.2.1)
  replace hF := k_fr_s (k := z) (c := k_rd tp (k_step g n 11 (k_step g n 10 (k_step g n 9 (k_ru g n R).2))).1 (k_step g n 11 (k_step g n 10 (k_step g n 9 (k_ru g n R).2))).2) hF (by simp)
  show m_J _ _ _ _ _ _ _ _ _ _ _ _ (_, _, _, H.set z (k_rd tp (k_step g n 11 (k_step g n 10 (k_step g n 9 (k_ru g n R).2))).1 (k_step g n 11 (k_step g n 10 (k_step g n 9 (k_ru g n R).2))).2))
  generalize H.set z (k_rd tp (k_step g n 11 (k_step g n 10 (k_step g n 9 (k_ru g n R).2))).1 (k_step g n 11 (k_step g n 10 (k_step g n 9 (k_ru g n R).2))).2) = H at hA hF ⊢
  refine m_J_run hM 1 rfl ⟨trivial, trivial⟩ ?_
  refine m_J_if (fun hc => ?_) (fun hc => ?_)
  case refine_2 =>
    have hc2 := k_z1 hc
    rw [if_pos hc2]
    refine m_J_run hM 2 rfl ⟨trivial, trivial, trivial⟩ ?_
    refine m_J_putf hM rfl rfl (hA.2.1) (rfl) ?_
    replace hA := k_RL_c (q' := (4, (k_ru g n R).1, q.2.2)) hA (⟨by simp, hA.2.2.2.2.1, hA.2.2.2.2.2.1, hA.2.2.2.2.2.2.1, hA.2.2.2.2.2.2.2.1, hA.2.2.2.2.2.2.2.2.1, fun h => absurd h (by simp)⟩)
    replace hF := k_fr_s (k := c) (c := k_ln (4, (k_ru g n R).1, q.2.2)) hF (by simp)
    show m_J _ _ _ _ _ _ _ _ _ _ _ _ (_, _, _, H.set c (k_ln (4, (k_ru g n R).1, q.2.2)))
    generalize H.set c (k_ln (4, (k_ru g n R).1, q.2.2)) = H at hA hF ⊢
    refine m_J_run hM 4 rfl ⟨trivial, trivial, trivial, trivial, trivial⟩ ?_
    refine m_callV (as := [.int (nI 0), .int (nI 99)]) (rest := [.ref c]) (m_EX_warm E N xs) hM rfl kw_X3_79 rfl rfl (hA.1.1) ⟨_, rfl, rfl⟩ (t_num (R := (k_step g n 11 (k_step g n 10 (k_step g n 9 (k_ru g n R).2)))) (by omega) (by omega) hA.2.2.1 hA.1) rfl (Nat.le_of_ble_eq_true rfl) (Nat.le_of_ble_eq_true rfl) (Nat.le_of_ble_eq_true rfl) (fun ht => ⟨ht, by simp⟩) ?_
    replace hA := k_RL_z (R' := k_nr g n 0 99 (k_step g n 11 (k_step g n 10 (k_step g n 9 (k_ru g n R).2)))) hA (k_nr_le hA.2.2.1)
    replace hF := k_fr_s (k := z) (c := k_rd tp (k_nr g n 0 99 (k_step g n 11 (k_step g n 10 (k_step g n 9 (k_ru g n R).2)))).1 (k_nr g n 0 99 (k_step g n 11 (k_step g n 10 (k_step g n 9 (k_ru g n R).2)))).2) hF (by simp)
    show m_J _ _ _ _ _ _ _ _ _ _ _ _ (_, _, _, H.set z (k_rd tp (k_nr g n 0 99 (k_step g n 11 (k_step g n 10 (k_step g n 9 (k_ru g n R).2)))).1 (k_nr g n 0 99 (k_step g n 11 (k_step g n 10 (k_step g n 9 (k_ru g n R).2)))).2))
    generalize H.set z (k_rd tp (k_nr g n 0 99 (k_step g n 11 (k_step g n 10 (k_step g n 9 (k_ru g n R).2)))).1 (k_nr g n 0 99 (k_step g n 11 (k_step g n 10 (k_step g n 9 (k_ru g n R).2)))).2) = H at hA hF ⊢
    refine m_J_putf hM rfl rfl (hA.2.1) (rfl) ?_
    replace hA := k_RL_c (q' := (4, (k_ru g n R).1, q.2.2.1, q.2.2.2.1, q.2.2.2.2.1, q.2.2.2.2.2.1, nI (k_nu g n (k_step g n 11 (k_step g n 10 (k_step g n 9 (k_ru g n R).2))).1 0 99))) hA (⟨hA.2.2.2.1, hA.2.2.2.2.1, hA.2.2.2.2.2.1, hA.2.2.2.2.2.2.1, hA.2.2.2.2.2.2.2.1, hA.2.2.2.2.2.2.2.2.1, hA.2.2.2.2.2.2.2.2.2⟩)
    replace hF := k_fr_s (k := c) (c := k_ln (4, (k_ru g n R).1, q.2.2.1, q.2.2.2.1, q.2.2.2.2.1, q.2.2.2.2.2.1, nI (k_nu g n (k_step g n 11 (k_step g n 10 (k_step g n 9 (k_ru g n R).2))).1 0 99))) hF (by simp)
    show m_J _ _ _ _ _ _ _ _ _ _ _ _ (_, _, _, H.set c (k_ln (4, (k_ru g n R).1, q.2.2.1, q.2.2.2.1, q.2.2.2.2.1, q.2.2.2.2.2.1, nI (k_nu g n (k_step g n 11 (k_step g n 10 (k_step g n 9 (k_ru g n R).2))).1 0 99))))
    generalize H.set c (k_ln (4, (k_ru g n R).1, q.2.2.1, q.2.2.2.1, q.2.2.2.2.1, q.2.2.2.2.2.1, nI (k_nu g n (k_step g n 11 (k_step g n 10 (k_step g n 9 (k_ru g n R).2))).1 0 99))) = H at hA hF ⊢
    refine m_J_run hM 1 rfl ⟨trivial, trivial⟩ ?_
    exact m_J_vret hM rfl rfl (Nat.le_refl _) (Nat.le_refl _) ⟨rfl, rfl, hA, hF⟩
  have hc2 := k_z0 hc
  rw [if_neg (by rw [hc2]; decide)]
  clear hc hc2
  refine m_J_run hM 1 rfl ⟨trivial, trivial⟩ ?_
  refine m_J_ldcS (si := 12) hM rfl rfl ?_
  refine m_callV (as := [.ref (1000001 + 12)]) (rest := []) (m_EX_warm E N xs) hM rfl kw_X3_53 rfl rfl (hA.1.1) ⟨_, rfl, rfl⟩ (t_sw (R := (k_step g n 11 (k_step g n 10 (k_step g n 9 (k_ru g n R).2)))) (by decide) hA.2.2.1 hA.1) rfl (Nat.le_of_ble_eq_true rfl) (Nat.le_of_ble_eq_true rfl) (Nat.le_of_ble_eq_true rfl) (fun ht => ⟨ht, by simp⟩) ?_
  replace hA := k_RL_z (R' := k_step g n 12 (k_step g n 11 (k_step g n 10 (k_step g n 9 (k_ru g n R).2)))) hA (k_step_le hA.2.2.1)
  replace hF := k_fr_s (k := z) (c := k_rd tp (k_step g n 12 (k_step g n 11 (k_step g n 10 (k_step g n 9 (k_ru g n R).2)))).1 (k_step g n 12 (k_step g n 11 (k_step g n 10 (k_step g n 9 (k_ru g n R).2)))).2) hF (by simp)
  show m_J _ _ _ _ _ _ _ _ _ _ _ _ (_, _, _, H.set z (k_rd tp (k_step g n 12 (k_step g n 11 (k_step g n 10 (k_step g n 9 (k_ru g n R).2)))).1 (k_step g n 12 (k_step g n 11 (k_step g n 10 (k_step g n 9 (k_ru g n R).2)))).2))
  generalize H.set z (k_rd tp (k_step g n 12 (k_step g n 11 (k_step g n 10 (k_step g n 9 (k_ru g n R).2)))).1 (k_step g n 12 (k_step g n 11 (k_step g n 10 (k_step g n 9 (k_ru g n R).2)))).2) = H at hA hF ⊢
  refine m_J_run hM 1 rfl ⟨trivial, trivial⟩ ?_
  refine m_J_if (fun hc => ?_) (fun hc => ?_)
  case refine_2 =>
    have hc2 := k_z1 hc
    rw [if_pos hc2]
    refine m_J_run hM 2 rfl ⟨trivial, trivial, trivial⟩ ?_
    refine m_J_putf hM rfl rfl (hA.2.1) (rfl) ?_
    replace hA := k_RL_c (q' := (5, (k_ru g n R).1, q.2.2)) hA (⟨by simp, hA.2.2.2.2.1, hA.2.2.2.2.2.1, hA.2.2.2.2.2.2.1, hA.2.2.2.2.2.2.2.1, hA.2.2.2.2.2.2.2.2.1, fun h => absurd h (by simp)⟩)
    replace hF := k_fr_s (k := c) (c := k_ln (5, (k_ru g n R).1, q.2.2)) hF (by simp)
    show m_J _ _ _ _ _ _ _ _ _ _ _ _ (_, _, _, H.set c (k_ln (5, (k_ru g n R).1, q.2.2)))
    generalize H.set c (k_ln (5, (k_ru g n R).1, q.2.2)) = H at hA hF ⊢
    refine m_J_run hM 1 rfl ⟨trivial, trivial⟩ ?_
    exact m_J_vret hM rfl rfl (Nat.le_refl _) (Nat.le_refl _) ⟨rfl, rfl, hA, hF⟩
  have hc2 := k_z0 hc
  rw [if_neg (by rw [hc2]; decide)]
  clear hc hc2
  refine m_J_run hM 1 rfl ⟨trivial, trivial⟩ ?_
  refine m_callV (as := []) (rest := []) (m_EX_warm E N xs) hM rfl kw_X3_48 rfl rfl (hA.1.1) ⟨_, rfl, rfl⟩ (t_ref hA.1) rfl (Nat.le_of_ble_eq_true rfl) (Nat.le_of_ble_eq_true rfl) (Nat.le_of_ble_eq_true rfl) (fun ht => ⟨ht, by simp⟩) ?_
  replace hA := k_RL_z (R' := k_refuse (k_step g n 12 (k_step g n 11 (k_step g n 10 (k_step g n 9 (k_ru g n R).2))))) hA hA.2.2.1
  replace hF := k_fr_s (k := z) (c := k_rd tp (k_refuse (k_step g n 12 (k_step g n 11 (k_step g n 10 (k_step g n 9 (k_ru g n R).2))))).1 (k_refuse (k_step g n 12 (k_step g n 11 (k_step g n 10 (k_step g n 9 (k_ru g n R).2))))).2) hF (by simp)
  show m_J _ _ _ _ _ _ _ _ _ _ _ _ (_, _, _, H.set z (k_rd tp (k_refuse (k_step g n 12 (k_step g n 11 (k_step g n 10 (k_step g n 9 (k_ru g n R).2))))).1 (k_refuse (k_step g n 12 (k_step g n 11 (k_step g n 10 (k_step g n 9 (k_ru g n R).2))))).2))
  generalize H.set z (k_rd tp (k_refuse (k_step g n 12 (k_step g n 11 (k_step g n 10 (k_step g n 9 (k_ru g n R).2))))).1 (k_refuse (k_step g n 12 (k_step g n 11 (k_step g n 10 (k_step g n 9 (k_ru g n R).2))))).2) = H at hA hF ⊢
  exact m_J_vret hM rfl rfl (Nat.le_refl _) (Nat.le_refl _) ⟨rfl, rfl, hA, hF⟩
set_option maxHeartbeats 2000000 in
theorem t_worth (hA : k_RL h z tp tb n g c R q) : m_Sp l (m_EX E N xs) E mM_X3_readWorth (d + 6) 0 0 [.ref z, .ref c] h tg (fun v H tg' => v = none ∧ tg' = tg ∧ k_RL H z tp tb n g c (k_rworth g n q R).2 (k_rworth g n q R).1 ∧ k_fr [z, c] h H) m_no := by
  have hM := mM_X3_readWorth_ok
  unfold k_rworth
  dsimp only
  refine m_Sp_of (by decide) (Nat.le_of_ble_eq_true rfl) ?_
  obtain ⟨H, hH⟩ : ∃ H, H = h := ⟨h, rfl⟩
  have hF : k_fr [z, c] h H := by rw [hH]; exact k_fr_r _ h
  rw [← hH] at hA
  rw [show (0, m_ent [Value.ref z, Value.ref c] mM_X3_readWorth.2.2.1, ([] : List Value), h) = (0, m_ent [Value.ref z, Value.ref c] mM_X3_readWorth.2.2.1, [], H) by rw [hH]]
  clear hH
  have hu := (k_ru_le (g := g) hA.2.2.1).2
  refine m_J_run hM 2 rfl ⟨trivial, trivial, trivial⟩ ?_
  refine m_callV (as := []) (rest := [.ref c]) (m_EX_warm E N xs) hM rfl kw_X3_68 rfl rfl (hA.1.1) ⟨_, rfl, rfl⟩ (t_use (R := R) hA.2.2.1 hA.1) rfl (Nat.le_of_ble_eq_true rfl) (Nat.le_of_ble_eq_true rfl) (Nat.le_of_ble_eq_true rfl) (fun ht => ⟨ht, by simp⟩) ?_
  replace hA := k_RL_z (R' := (k_ru g n R).2) hA (k_ru_le hA.2.2.1).1
  replace hF := k_fr_s (k := z) (c := k_rd tp (k_ru g n R).2.1 (k_ru g n R).2.2) hF (by simp)
  show m_J _ _ _ _ _ _ _ _ _ _ _ _ (_, _, _, H.set z (k_rd tp (k_ru g n R).2.1 (k_ru g n R).2.2))
  generalize H.set z (k_rd tp (k_ru g n R).2.1 (k_ru g n R).2.2) = H at hA hF ⊢
  refine m_J_putf hM rfl rfl (hA.2.1) (rfl) ?_
  replace hA := k_RL_c (q' := (q.1, (k_ru g n R).1, q.2.2)) hA (⟨hA.2.2.2.1, hu, hA.2.2.2.2.2.1, hA.2.2.2.2.2.2.1, hA.2.2.2.2.2.2.2.1, hA.2.2.2.2.2.2.2.2.1, hA.2.2.2.2.2.2.2.2.2⟩)
  replace hF := k_fr_s (k := c) (c := k_ln (q.1, (k_ru g n R).1, q.2.2)) hF (by simp)
  show m_J _ _ _ _ _ _ _ _ _ _ _ _ (_, _, _, H.set c (k_ln (q.1, (k_ru g n R).1, q.2.2)))
  generalize H.set c (k_ln (q.1, (k_ru g n R).1, q.2.2)) = H at hA hF ⊢
  refine m_J_run hM 1 rfl ⟨trivial, trivial⟩ ?_
  refine m_J_ldcS (si := 17) hM rfl rfl ?_
  refine m_callV (as := [.ref (1000001 + 17)]) (rest := []) (m_EX_warm E N xs) hM rfl kw_X3_53 rfl rfl (hA.1.1) ⟨_, rfl, rfl⟩ (t_sw (R := (k_ru g n R).2) (by decide) hA.2.2.1 hA.1) rfl (Nat.le_of_ble_eq_true rfl) (Nat.le_of_ble_eq_true rfl) (Nat.le_of_ble_eq_true rfl) (fun ht => ⟨ht, by simp⟩) ?_
  replace hA := k_RL_z (R' := k_step g n 17 (k_ru g n R).2) hA (k_step_le hA.2.2.1)
  replace hF := k_fr_s (k := z) (c := k_rd tp (k_step g n 17 (k_ru g n R).2).1 (k_step g n 17 (k_ru g n R).2).2) hF (by simp)
  show m_J _ _ _ _ _ _ _ _ _ _ _ _ (_, _, _, H.set z (k_rd tp (k_step g n 17 (k_ru g n R).2).1 (k_step g n 17 (k_ru g n R).2).2))
  generalize H.set z (k_rd tp (k_step g n 17 (k_ru g n R).2).1 (k_step g n 17 (k_ru g n R).2).2) = H at hA hF ⊢
  refine m_J_run hM 1 rfl ⟨trivial, trivial⟩ ?_
  generalize hsg : (if k_swb g n (k_ru g n R).2.1 17 = true then -nI 1 else nI 1) = sg
  refine m_J_join (S2 := (22, [some (.ref z), some (.ref c), none], [.int sg], H)) ?_ ?_
  · intro hJ
    refine m_J_if (fun hc => ?_) (fun hc => ?_)
    · have hc2 := k_z0 hc
      rw [if_neg (by rw [hc2]; decide)] at hsg
      refine m_J_run hM 1 rfl ⟨trivial, trivial⟩ ?_
      rw [hsg]
      exact hJ
    · have hc2 := k_z1 hc
      rw [if_pos hc2] at hsg
      refine m_J_run hM 2 rfl ⟨trivial, trivial, trivial⟩ ?_
      rw [hsg]
      exact hJ
  refine m_J_run hM 6 rfl ⟨trivial, trivial, trivial, trivial, trivial, trivial, trivial⟩ ?_
  refine m_callV (as := [.int (nI 0), .int (nI 99)]) (rest := [.int sg, .ref c]) (m_EX_warm E N xs) hM rfl kw_X3_79 rfl rfl (hA.1.1) ⟨_, rfl, rfl⟩ (t_num (R := (k_step g n 17 (k_ru g n R).2)) (by omega) (by omega) hA.2.2.1 hA.1) rfl (Nat.le_of_ble_eq_true rfl) (Nat.le_of_ble_eq_true rfl) (Nat.le_of_ble_eq_true rfl) (fun ht => ⟨ht, by simp⟩) ?_
  replace hA := k_RL_z (R' := k_nr g n 0 99 (k_step g n 17 (k_ru g n R).2)) hA (k_nr_le hA.2.2.1)
  replace hF := k_fr_s (k := z) (c := k_rd tp (k_nr g n 0 99 (k_step g n 17 (k_ru g n R).2)).1 (k_nr g n 0 99 (k_step g n 17 (k_ru g n R).2)).2) hF (by simp)
  show m_J _ _ _ _ _ _ _ _ _ _ _ _ (_, _, _, H.set z (k_rd tp (k_nr g n 0 99 (k_step g n 17 (k_ru g n R).2)).1 (k_nr g n 0 99 (k_step g n 17 (k_ru g n R).2)).2))
  generalize H.set z (k_rd tp (k_nr g n 0 99 (k_step g n 17 (k_ru g n R).2)).1 (k_nr g n 0 99 (k_step g n 17 (k_ru g n R).2)).2) = H at hA hF ⊢
  refine m_J_run hM 1 rfl ⟨trivial, trivial⟩ ?_
  refine m_J_putf hM rfl rfl (hA.2.1) (rfl) ?_
  replace hA := k_RL_c (q' := (q.1, (k_ru g n R).1, q.2.2.1, q.2.2.2.1, q.2.2.2.2.1, q.2.2.2.2.2.1, sg * nI (k_nu g n (k_step g n 17 (k_ru g n R).2).1 0 99))) hA (⟨hA.2.2.2.1, hA.2.2.2.2.1, hA.2.2.2.2.2.1, hA.2.2.2.2.2.2.1, hA.2.2.2.2.2.2.2.1, hA.2.2.2.2.2.2.2.2.1, hA.2.2.2.2.2.2.2.2.2⟩)
  replace hF := k_fr_s (k := c) (c := k_ln (q.1, (k_ru g n R).1, q.2.2.1, q.2.2.2.1, q.2.2.2.2.1, q.2.2.2.2.2.1, sg * nI (k_nu g n (k_step g n 17 (k_ru g n R).2).1 0 99))) hF (by simp)
  show m_J _ _ _ _ _ _ _ _ _ _ _ _ (_, _, _, H.set c (k_ln (q.1, (k_ru g n R).1, q.2.2.1, q.2.2.2.1, q.2.2.2.2.1, q.2.2.2.2.2.1, sg * nI (k_nu g n (k_step g n 17 (k_ru g n R).2).1 0 99))))
  generalize H.set c (k_ln (q.1, (k_ru g n R).1, q.2.2.1, q.2.2.2.1, q.2.2.2.2.1, q.2.2.2.2.2.1, sg * nI (k_nu g n (k_step g n 17 (k_ru g n R).2).1 0 99))) = H at hA hF ⊢
  refine m_J_run hM 1 rfl ⟨trivial, trivial⟩ ?_
  refine m_J_ldcS (si := 16) hM rfl rfl ?_
  refine m_callV (as := [.ref (1000001 + 16)]) (rest := []) (m_EX_warm E N xs) hM rfl kw_X3_53 rfl rfl (hA.1.1) ⟨_, rfl, rfl⟩ (t_sw (R := (k_nr g n 0 99 (k_step g n 17 (k_ru g n R).2))) (by decide) hA.2.2.1 hA.1) rfl (Nat.le_of_ble_eq_true rfl) (Nat.le_of_ble_eq_true rfl) (Nat.le_of_ble_eq_true rfl) (fun ht => ⟨ht, by simp⟩) ?_
  replace hA := k_RL_z (R' := k_step g n 16 (k_nr g n 0 99 (k_step g n 17 (k_ru g n R).2))) hA (k_step_le hA.2.2.1)
  replace hF := k_fr_s (k := z) (c := k_rd tp (k_step g n 16 (k_nr g n 0 99 (k_step g n 17 (k_ru g n R).2))).1 (k_step g n 16 (k_nr g n 0 99 (k_step g n 17 (k_ru g n R).2))).2) hF (by simp)
  show m_J _ _ _ _ _ _ _ _ _ _ _ _ (_, _, _, H.set z (k_rd tp (k_step g n 16 (k_nr g n 0 99 (k_step g n 17 (k_ru g n R).2))).1 (k_step g n 16 (k_nr g n 0 99 (k_step g n 17 (k_ru g n R).2))).2))
  generalize H.set z (k_rd tp (k_step g n 16 (k_nr g n 0 99 (k_step g n 17 (k_ru g n R).2))).1 (k_step g n 16 (k_nr g n 0 99 (k_step g n 17 (k_ru g n R).2))).2) = H at hA hF ⊢
  refine m_J_run hM 1 rfl ⟨trivial, trivial⟩ ?_
  refine m_J_if (fun hc => ?_) (fun hc => ?_)
  case refine_2 =>
    have hc2 := k_z1 hc
    rw [if_pos hc2]
    have hv := (k_ru_le (g := g) hA.2.2.1).2
    refine m_J_run hM 2 rfl ⟨trivial, trivial, trivial⟩ ?_
    refine m_J_putf hM rfl rfl (hA.2.1) (rfl) ?_
    replace hA := k_RL_c (q' := (0, (k_ru g n R).1, q.2.2.1, q.2.2.2.1, q.2.2.2.2.1, q.2.2.2.2.2.1, sg * nI (k_nu g n (k_step g n 17 (k_ru g n R).2).1 0 99))) hA (⟨by simp, hA.2.2.2.2.1, hA.2.2.2.2.2.1, hA.2.2.2.2.2.2.1, hA.2.2.2.2.2.2.2.1, hA.2.2.2.2.2.2.2.2.1, fun h => absurd h (by simp)⟩)
    replace hF := k_fr_s (k := c) (c := k_ln (0, (k_ru g n R).1, q.2.2.1, q.2.2.2.1, q.2.2.2.2.1, q.2.2.2.2.2.1, sg * nI (k_nu g n (k_step g n 17 (k_ru g n R).2).1 0 99))) hF (by simp)
    show m_J _ _ _ _ _ _ _ _ _ _ _ _ (_, _, _, H.set c (k_ln (0, (k_ru g n R).1, q.2.2.1, q.2.2.2.1, q.2.2.2.2.1, q.2.2.2.2.2.1, sg * nI (k_nu g n (k_step g n 17 (k_ru g n R).2).1 0 99))))
    generalize H.set c (k_ln (0, (k_ru g n R).1, q.2.2.1, q.2.2.2.1, q.2.2.2.2.1, q.2.2.2.2.2.1, sg * nI (k_nu g n (k_step g n 17 (k_ru g n R).2).1 0 99))) = H at hA hF ⊢
    refine m_J_run hM 2 rfl ⟨trivial, trivial, trivial⟩ ?_
    refine m_callV (as := []) (rest := [.ref c]) (m_EX_warm E N xs) hM rfl kw_X3_68 rfl rfl (hA.1.1) ⟨_, rfl, rfl⟩ (t_use (R := (k_step g n 16 (k_nr g n 0 99 (k_step g n 17 (k_ru g n R).2)))) hA.2.2.1 hA.1) rfl (Nat.le_of_ble_eq_true rfl) (Nat.le_of_ble_eq_true rfl) (Nat.le_of_ble_eq_true rfl) (fun ht => ⟨ht, by simp⟩) ?_
    replace hA := k_RL_z (R' := (k_ru g n (k_step g n 16 (k_nr g n 0 99 (k_step g n 17 (k_ru g n R).2)))).2) hA (k_ru_le hA.2.2.1).1
    replace hF := k_fr_s (k := z) (c := k_rd tp (k_ru g n (k_step g n 16 (k_nr g n 0 99 (k_step g n 17 (k_ru g n R).2)))).2.1 (k_ru g n (k_step g n 16 (k_nr g n 0 99 (k_step g n 17 (k_ru g n R).2)))).2.2) hF (by simp)
    show m_J _ _ _ _ _ _ _ _ _ _ _ _ (_, _, _, H.set z (k_rd tp (k_ru g n (k_step g n 16 (k_nr g n 0 99 (k_step g n 17 (k_ru g n R).2)))).2.1 (k_ru g n (k_step g n 16 (k_nr g n 0 99 (k_step g n 17 (k_ru g n R).2)))).2.2))
    generalize H.set z (k_rd tp (k_ru g n (k_step g n 16 (k_nr g n 0 99 (k_step g n 17 (k_ru g n R).2)))).2.1 (k_ru g n (k_step g n 16 (k_nr g n 0 99 (k_step g n 17 (k_ru g n R).2)))).2.2) = H at hA hF ⊢
    refine m_J_putf hM rfl rfl (hA.2.1) (rfl) ?_
    replace hA := k_RL_c (q' := (0, (k_ru g n R).1, (k_ru g n (k_step g n 16 (k_nr g n 0 99 (k_step g n 17 (k_ru g n R).2)))).1, q.2.2.2.1, q.2.2.2.2.1, q.2.2.2.2.2.1, sg * nI (k_nu g n (k_step g n 17 (k_ru g n R).2).1 0 99))) hA (⟨hA.2.2.2.1, hA.2.2.2.2.1, hv, hA.2.2.2.2.2.2.1, hA.2.2.2.2.2.2.2.1, hA.2.2.2.2.2.2.2.2.1, hA.2.2.2.2.2.2.2.2.2⟩)
    replace hF := k_fr_s (k := c) (c := k_ln (0, (k_ru g n R).1, (k_ru g n (k_step g n 16 (k_nr g n 0 99 (k_step g n 17 (k_ru g n R).2)))).1, q.2.2.2.1, q.2.2.2.2.1, q.2.2.2.2.2.1, sg * nI (k_nu g n (k_step g n 17 (k_ru g n R).2).1 0 99))) hF (by simp)
    show m_J _ _ _ _ _ _ _ _ _ _ _ _ (_, _, _, H.set c (k_ln (0, (k_ru g n R).1, (k_ru g n (k_step g n 16 (k_nr g n 0 99 (k_step g n 17 (k_ru g n R).2)))).1, q.2.2.2.1, q.2.2.2.2.1, q.2.2.2.2.2.1, sg * nI (k_nu g n (k_step g n 17 (k_ru g n R).2).1 0 99))))
    generalize H.set c (k_ln (0, (k_ru g n R).1, (k_ru g n (k_step g n 16 (k_nr g n 0 99 (k_step g n 17 (k_ru g n R).2)))).1, q.2.2.2.1, q.2.2.2.2.1, q.2.2.2.2.2.1, sg * nI (k_nu g n (k_step g n 17 (k_ru g n R).2).1 0 99))) = H at hA hF ⊢
    refine m_J_run hM 4 rfl ⟨trivial, trivial, trivial, trivial, trivial⟩ ?_
    have hnu := k_nu_ok (g := g) (n := n) (p := (k_ru g n (k_step g n 16 (k_nr g n 0 99 (k_step g n 17 (k_ru g n R).2)))).2.1) (lo := 1) (hi := 5) (by omega) (by omega)
    refine m_callV (as := [.int (nI 1), .int (nI 5)]) (rest := [.ref c]) (m_EX_warm E N xs) hM rfl kw_X3_79 rfl rfl (hA.1.1) ⟨_, rfl, rfl⟩ (t_num (R := (k_ru g n (k_step g n 16 (k_nr g n 0 99 (k_step g n 17 (k_ru g n R).2)))).2) (by omega) (by omega) hA.2.2.1 hA.1) rfl (Nat.le_of_ble_eq_true rfl) (Nat.le_of_ble_eq_true rfl) (Nat.le_of_ble_eq_true rfl) (fun ht => ⟨ht, by simp⟩) ?_
    replace hA := k_RL_z (R' := k_nr g n 1 5 (k_ru g n (k_step g n 16 (k_nr g n 0 99 (k_step g n 17 (k_ru g n R).2)))).2) hA (k_nr_le hA.2.2.1)
    replace hF := k_fr_s (k := z) (c := k_rd tp (k_nr g n 1 5 (k_ru g n (k_step g n 16 (k_nr g n 0 99 (k_step g n 17 (k_ru g n R).2)))).2).1 (k_nr g n 1 5 (k_ru g n (k_step g n 16 (k_nr g n 0 99 (k_step g n 17 (k_ru g n R).2)))).2).2) hF (by simp)
    show m_J _ _ _ _ _ _ _ _ _ _ _ _ (_, _, _, H.set z (k_rd tp (k_nr g n 1 5 (k_ru g n (k_step g n 16 (k_nr g n 0 99 (k_step g n 17 (k_ru g n R).2)))).2).1 (k_nr g n 1 5 (k_ru g n (k_step g n 16 (k_nr g n 0 99 (k_step g n 17 (k_ru g n R).2)))).2).2))
    generalize H.set z (k_rd tp (k_nr g n 1 5 (k_ru g n (k_step g n 16 (k_nr g n 0 99 (k_step g n 17 (k_ru g n R).2)))).2).1 (k_nr g n 1 5 (k_ru g n (k_step g n 16 (k_nr g n 0 99 (k_step g n 17 (k_ru g n R).2)))).2).2) = H at hA hF ⊢
    refine m_J_putf hM rfl rfl (hA.2.1) (rfl) ?_
    replace hA := k_RL_c (q' := (0, (k_ru g n R).1, (k_ru g n (k_step g n 16 (k_nr g n 0 99 (k_step g n 17 (k_ru g n R).2)))).1, q.2.2.2.1, k_nu g n (k_ru g n (k_step g n 16 (k_nr g n 0 99 (k_step g n 17 (k_ru g n R).2)))).2.1 1 5, q.2.2.2.2.2.1, sg * nI (k_nu g n (k_step g n 17 (k_ru g n R).2).1 0 99))) hA (⟨hA.2.2.2.1, hA.2.2.2.2.1, hA.2.2.2.2.2.1, hA.2.2.2.2.2.2.1, hnu.2.1, hA.2.2.2.2.2.2.2.2.1, fun h => absurd h (by simp)⟩)
    replace hF := k_fr_s (k := c) (c := k_ln (0, (k_ru g n R).1, (k_ru g n (k_step g n 16 (k_nr g n 0 99 (k_step g n 17 (k_ru g n R).2)))).1, q.2.2.2.1, k_nu g n (k_ru g n (k_step g n 16 (k_nr g n 0 99 (k_step g n 17 (k_ru g n R).2)))).2.1 1 5, q.2.2.2.2.2.1, sg * nI (k_nu g n (k_step g n 17 (k_ru g n R).2).1 0 99))) hF (by simp)
    show m_J _ _ _ _ _ _ _ _ _ _ _ _ (_, _, _, H.set c (k_ln (0, (k_ru g n R).1, (k_ru g n (k_step g n 16 (k_nr g n 0 99 (k_step g n 17 (k_ru g n R).2)))).1, q.2.2.2.1, k_nu g n (k_ru g n (k_step g n 16 (k_nr g n 0 99 (k_step g n 17 (k_ru g n R).2)))).2.1 1 5, q.2.2.2.2.2.1, sg * nI (k_nu g n (k_step g n 17 (k_ru g n R).2).1 0 99))))
    generalize H.set c (k_ln (0, (k_ru g n R).1, (k_ru g n (k_step g n 16 (k_nr g n 0 99 (k_step g n 17 (k_ru g n R).2)))).1, q.2.2.2.1, k_nu g n (k_ru g n (k_step g n 16 (k_nr g n 0 99 (k_step g n 17 (k_ru g n R).2)))).2.1 1 5, q.2.2.2.2.2.1, sg * nI (k_nu g n (k_step g n 17 (k_ru g n R).2).1 0 99))) = H at hA hF ⊢
    refine m_J_run hM 1 rfl ⟨trivial, trivial⟩ ?_
    exact m_J_vret hM rfl rfl (Nat.le_refl _) (Nat.le_refl _) ⟨rfl, rfl, hA, hF⟩
  have hc2 := k_z0 hc
  rw [if_neg (by rw [hc2]; decide)]
  clear hc hc2
  refine m_J_run hM 1 rfl ⟨trivial, trivial⟩ ?_
  refine m_J_ldcS (si := 18) hM rfl rfl ?_
  refine m_callV (as := [.ref (1000001 + 18)]) (rest := []) (m_EX_warm E N xs) hM rfl kw_X3_53 rfl rfl (hA.1.1) ⟨_, rfl, rfl⟩ (t_sw (R := (k_step g n 16 (k_nr g n 0 99 (k_step g n 17 (k_ru g n R).2)))) (by decide) hA.2.2.1 hA.1) rfl (Nat.le_of_ble_eq_true rfl) (Nat.le_of_ble_eq_true rfl) (Nat.le_of_ble_eq_true rfl) (fun ht => ⟨ht, by simp⟩) ?_
  replace hA := k_RL_z (R' := k_step g n 18 (k_step g n 16 (k_nr g n 0 99 (k_step g n 17 (k_ru g n R).2)))) hA (k_step_le hA.2.2.1)
  replace hF := k_fr_s (k := z) (c := k_rd tp (k_step g n 18 (k_step g n 16 (k_nr g n 0 99 (k_step g n 17 (k_ru g n R).2)))).1 (k_step g n 18 (k_step g n 16 (k_nr g n 0 99 (k_step g n 17 (k_ru g n R).2)))).2) hF (by simp)
  show m_J _ _ _ _ _ _ _ _ _ _ _ _ (_, _, _, H.set z (k_rd tp (k_step g n 18 (k_step g n 16 (k_nr g n 0 99 (k_step g n 17 (k_ru g n R).2)))).1 (k_step g n 18 (k_step g n 16 (k_nr g n 0 99 (k_step g n 17 (k_ru g n R).2)))).2))
  generalize H.set z (k_rd tp (k_step g n 18 (k_step g n 16 (k_nr g n 0 99 (k_step g n 17 (k_ru g n R).2)))).1 (k_step g n 18 (k_step g n 16 (k_nr g n 0 99 (k_step g n 17 (k_ru g n R).2)))).2) = H at hA hF ⊢
  refine m_J_run hM 1 rfl ⟨trivial, trivial⟩ ?_
  refine m_J_if (fun hc => ?_) (fun hc => ?_)
  case refine_2 =>
    have hc2 := k_z1 hc
    rw [if_pos hc2]
    refine m_J_run hM 2 rfl ⟨trivial, trivial, trivial⟩ ?_
    refine m_J_putf hM rfl rfl (hA.2.1) (rfl) ?_
    replace hA := k_RL_c (q' := (1, (k_ru g n R).1, q.2.2.1, q.2.2.2.1, q.2.2.2.2.1, q.2.2.2.2.2.1, sg * nI (k_nu g n (k_step g n 17 (k_ru g n R).2).1 0 99))) hA (⟨by simp, hA.2.2.2.2.1, hA.2.2.2.2.2.1, hA.2.2.2.2.2.2.1, hA.2.2.2.2.2.2.2.1, hA.2.2.2.2.2.2.2.2.1, fun h => absurd h (by simp)⟩)
    replace hF := k_fr_s (k := c) (c := k_ln (1, (k_ru g n R).1, q.2.2.1, q.2.2.2.1, q.2.2.2.2.1, q.2.2.2.2.2.1, sg * nI (k_nu g n (k_step g n 17 (k_ru g n R).2).1 0 99))) hF (by simp)
    show m_J _ _ _ _ _ _ _ _ _ _ _ _ (_, _, _, H.set c (k_ln (1, (k_ru g n R).1, q.2.2.1, q.2.2.2.1, q.2.2.2.2.1, q.2.2.2.2.2.1, sg * nI (k_nu g n (k_step g n 17 (k_ru g n R).2).1 0 99))))
    generalize H.set c (k_ln (1, (k_ru g n R).1, q.2.2.1, q.2.2.2.1, q.2.2.2.2.1, q.2.2.2.2.2.1, sg * nI (k_nu g n (k_step g n 17 (k_ru g n R).2).1 0 99))) = H at hA hF ⊢
    refine m_J_run hM 4 rfl ⟨trivial, trivial, trivial, trivial, trivial⟩ ?_
    have hnu := k_nu_ok (g := g) (n := n) (p := (k_step g n 18 (k_step g n 16 (k_nr g n 0 99 (k_step g n 17 (k_ru g n R).2)))).1) (lo := 0) (hi := 9) (by omega) (by omega)
    refine m_callV (as := [.int (nI 0), .int (nI 9)]) (rest := [.ref c]) (m_EX_warm E N xs) hM rfl kw_X3_79 rfl rfl (hA.1.1) ⟨_, rfl, rfl⟩ (t_num (R := (k_step g n 18 (k_step g n 16 (k_nr g n 0 99 (k_step g n 17 (k_ru g n R).2))))) (by omega) (by omega) hA.2.2.1 hA.1) rfl (Nat.le_of_ble_eq_true rfl) (Nat.le_of_ble_eq_true rfl) (Nat.le_of_ble_eq_true rfl) (fun ht => ⟨ht, by simp⟩) ?_
    replace hA := k_RL_z (R' := k_nr g n 0 9 (k_step g n 18 (k_step g n 16 (k_nr g n 0 99 (k_step g n 17 (k_ru g n R).2))))) hA (k_nr_le hA.2.2.1)
    replace hF := k_fr_s (k := z) (c := k_rd tp (k_nr g n 0 9 (k_step g n 18 (k_step g n 16 (k_nr g n 0 99 (k_step g n 17 (k_ru g n R).2))))).1 (k_nr g n 0 9 (k_step g n 18 (k_step g n 16 (k_nr g n 0 99 (k_step g n 17 (k_ru g n R).2))))).2) hF (by simp)
    show m_J _ _ _ _ _ _ _ _ _ _ _ _ (_, _, _, H.set z (k_rd tp (k_nr g n 0 9 (k_step g n 18 (k_step g n 16 (k_nr g n 0 99 (k_step g n 17 (k_ru g n R).2))))).1 (k_nr g n 0 9 (k_step g n 18 (k_step g n 16 (k_nr g n 0 99 (k_step g n 17 (k_ru g n R).2))))).2))
    generalize H.set z (k_rd tp (k_nr g n 0 9 (k_step g n 18 (k_step g n 16 (k_nr g n 0 99 (k_step g n 17 (k_ru g n R).2))))).1 (k_nr g n 0 9 (k_step g n 18 (k_step g n 16 (k_nr g n 0 99 (k_step g n 17 (k_ru g n R).2))))).2) = H at hA hF ⊢
    refine m_J_putf hM rfl rfl (hA.2.1) (rfl) ?_
    replace hA := k_RL_c (q' := (1, (k_ru g n R).1, q.2.2.1, q.2.2.2.1, q.2.2.2.2.1, k_nu g n (k_step g n 18 (k_step g n 16 (k_nr g n 0 99 (k_step g n 17 (k_ru g n R).2)))).1 0 9, sg * nI (k_nu g n (k_step g n 17 (k_ru g n R).2).1 0 99))) hA (⟨hA.2.2.2.1, hA.2.2.2.2.1, hA.2.2.2.2.2.1, hA.2.2.2.2.2.2.1, hA.2.2.2.2.2.2.2.1, hnu.2.1, hA.2.2.2.2.2.2.2.2.2⟩)
    replace hF := k_fr_s (k := c) (c := k_ln (1, (k_ru g n R).1, q.2.2.1, q.2.2.2.1, q.2.2.2.2.1, k_nu g n (k_step g n 18 (k_step g n 16 (k_nr g n 0 99 (k_step g n 17 (k_ru g n R).2)))).1 0 9, sg * nI (k_nu g n (k_step g n 17 (k_ru g n R).2).1 0 99))) hF (by simp)
    show m_J _ _ _ _ _ _ _ _ _ _ _ _ (_, _, _, H.set c (k_ln (1, (k_ru g n R).1, q.2.2.1, q.2.2.2.1, q.2.2.2.2.1, k_nu g n (k_step g n 18 (k_step g n 16 (k_nr g n 0 99 (k_step g n 17 (k_ru g n R).2)))).1 0 9, sg * nI (k_nu g n (k_step g n 17 (k_ru g n R).2).1 0 99))))
    generalize H.set c (k_ln (1, (k_ru g n R).1, q.2.2.1, q.2.2.2.1, q.2.2.2.2.1, k_nu g n (k_step g n 18 (k_step g n 16 (k_nr g n 0 99 (k_step g n 17 (k_ru g n R).2)))).1 0 9, sg * nI (k_nu g n (k_step g n 17 (k_ru g n R).2).1 0 99))) = H at hA hF ⊢
    refine m_J_run hM 1 rfl ⟨trivial, trivial⟩ ?_
    exact m_J_vret hM rfl rfl (Nat.le_refl _) (Nat.le_refl _) ⟨rfl, rfl, hA, hF⟩
  have hc2 := k_z0 hc
  rw [if_neg (by rw [hc2]; decide)]
  clear hc hc2
  refine m_J_run hM 1 rfl ⟨trivial, trivial⟩ ?_
  refine m_callV (as := []) (rest := []) (m_EX_warm E N xs) hM rfl kw_X3_48 rfl rfl (hA.1.1) ⟨_, rfl, rfl⟩ (t_ref hA.1) rfl (Nat.le_of_ble_eq_true rfl) (Nat.le_of_ble_eq_true rfl) (Nat.le_of_ble_eq_true rfl) (fun ht => ⟨ht, by simp⟩) ?_
  replace hA := k_RL_z (R' := k_refuse (k_step g n 18 (k_step g n 16 (k_nr g n 0 99 (k_step g n 17 (k_ru g n R).2))))) hA hA.2.2.1
  replace hF := k_fr_s (k := z) (c := k_rd tp (k_refuse (k_step g n 18 (k_step g n 16 (k_nr g n 0 99 (k_step g n 17 (k_ru g n R).2))))).1 (k_refuse (k_step g n 18 (k_step g n 16 (k_nr g n 0 99 (k_step g n 17 (k_ru g n R).2))))).2) hF (by simp)
  show m_J _ _ _ _ _ _ _ _ _ _ _ _ (_, _, _, H.set z (k_rd tp (k_refuse (k_step g n 18 (k_step g n 16 (k_nr g n 0 99 (k_step g n 17 (k_ru g n R).2))))).1 (k_refuse (k_step g n 18 (k_step g n 16 (k_nr g n 0 99 (k_step g n 17 (k_ru g n R).2))))).2))
  generalize H.set z (k_rd tp (k_refuse (k_step g n 18 (k_step g n 16 (k_nr g n 0 99 (k_step g n 17 (k_ru g n R).2))))).1 (k_refuse (k_step g n 18 (k_step g n 16 (k_nr g n 0 99 (k_step g n 17 (k_ru g n R).2))))).2) = H at hA hF ⊢
  exact m_J_vret hM rfl rfl (Nat.le_refl _) (Nat.le_refl _) ⟨rfl, rfl, hA, hF⟩
set_option maxHeartbeats 2000000 in
theorem t_grow (hA : k_RL h z tp tb n g c R q) : m_Sp l (m_EX E N xs) E mM_X3_readGrow (d + 6) 0 0 [.ref z, .ref c] h tg (fun v H tg' => v = none ∧ tg' = tg ∧ k_RL H z tp tb n g c (k_rgrow g n q R).2 (k_rgrow g n q R).1 ∧ k_fr [z, c] h H) m_no := by
  have hM := mM_X3_readGrow_ok
  unfold k_rgrow
  dsimp only
  refine m_Sp_of (by decide) (Nat.le_of_ble_eq_true rfl) ?_
  obtain ⟨H, hH⟩ : ∃ H, H = h := ⟨h, rfl⟩
  have hF : k_fr [z, c] h H := by rw [hH]; exact k_fr_r _ h
  rw [← hH] at hA
  rw [show (0, m_ent [Value.ref z, Value.ref c] mM_X3_readGrow.2.2.1, ([] : List Value), h) = (0, m_ent [Value.ref z, Value.ref c] mM_X3_readGrow.2.2.1, [], H) by rw [hH]]
  clear hH
  have hu := (k_ru_le (g := g) hA.2.2.1).2
  refine m_J_run hM 2 rfl ⟨trivial, trivial, trivial⟩ ?_
  refine m_J_putf hM rfl rfl (hA.2.1) (rfl) ?_
  replace hA := k_RL_c (q' := (6, q.2)) hA (⟨by simp, hA.2.2.2.2.1, hA.2.2.2.2.2.1, hA.2.2.2.2.2.2.1, hA.2.2.2.2.2.2.2.1, hA.2.2.2.2.2.2.2.2.1, fun h => absurd h (by simp)⟩)
  replace hF := k_fr_s (k := c) (c := k_ln (6, q.2)) hF (by simp)
  show m_J _ _ _ _ _ _ _ _ _ _ _ _ (_, _, _, H.set c (k_ln (6, q.2)))
  generalize H.set c (k_ln (6, q.2)) = H at hA hF ⊢
  refine m_J_run hM 2 rfl ⟨trivial, trivial, trivial⟩ ?_
  refine m_callV (as := []) (rest := [.ref c]) (m_EX_warm E N xs) hM rfl kw_X3_68 rfl rfl (hA.1.1) ⟨_, rfl, rfl⟩ (t_use (R := R) hA.2.2.1 hA.1) rfl (Nat.le_of_ble_eq_true rfl) (Nat.le_of_ble_eq_true rfl) (Nat.le_of_ble_eq_true rfl) (fun ht => ⟨ht, by simp⟩) ?_
  replace hA := k_RL_z (R' := (k_ru g n R).2) hA (k_ru_le hA.2.2.1).1
  replace hF := k_fr_s (k := z) (c := k_rd tp (k_ru g n R).2.1 (k_ru g n R).2.2) hF (by simp)
  show m_J _ _ _ _ _ _ _ _ _ _ _ _ (_, _, _, H.set z (k_rd tp (k_ru g n R).2.1 (k_ru g n R).2.2))
  generalize H.set z (k_rd tp (k_ru g n R).2.1 (k_ru g n R).2.2) = H at hA hF ⊢
  refine m_J_putf hM rfl rfl (hA.2.1) (rfl) ?_
  replace hA := k_RL_c (q' := (6, (k_ru g n R).1, q.2.2)) hA (⟨hA.2.2.2.1, hu, hA.2.2.2.2.2.1, hA.2.2.2.2.2.2.1, hA.2.2.2.2.2.2.2.1, hA.2.2.2.2.2.2.2.2.1, hA.2.2.2.2.2.2.2.2.2⟩)
  replace hF := k_fr_s (k := c) (c := k_ln (6, (k_ru g n R).1, q.2.2)) hF (by simp)
  show m_J _ _ _ _ _ _ _ _ _ _ _ _ (_, _, _, H.set c (k_ln (6, (k_ru g n R).1, q.2.2)))
  generalize H.set c (k_ln (6, (k_ru g n R).1, q.2.2)) = H at hA hF ⊢
  refine m_J_run hM 1 rfl ⟨trivial, trivial⟩ ?_
  refine m_J_ldcS (si := 14) hM rfl rfl ?_
  refine m_callV (as := [.ref (1000001 + 14)]) (rest := []) (m_EX_warm E N xs) hM rfl kw_X3_112 rfl rfl (hA.1.1) ⟨_, rfl, rfl⟩ (t_word (R := (k_ru g n R).2) (by decide) hA.2.2.1 hA.1) rfl (Nat.le_of_ble_eq_true rfl) (Nat.le_of_ble_eq_true rfl) (Nat.le_of_ble_eq_true rfl) (fun ht => ⟨ht, by simp⟩) ?_
  replace hA := k_RL_z (R' := k_rw g n 14 (k_ru g n R).2) hA (k_rw_le hA.2.2.1)
  replace hF := k_fr_s (k := z) (c := k_rd tp (k_rw g n 14 (k_ru g n R).2).1 (k_rw g n 14 (k_ru g n R).2).2) hF (by simp)
  show m_J _ _ _ _ _ _ _ _ _ _ _ _ (_, _, _, H.set z (k_rd tp (k_rw g n 14 (k_ru g n R).2).1 (k_rw g n 14 (k_ru g n R).2).2))
  generalize H.set z (k_rd tp (k_rw g n 14 (k_ru g n R).2).1 (k_rw g n 14 (k_ru g n R).2).2) = H at hA hF ⊢
  have hv := (k_ru_le (g := g) hA.2.2.1).2
  refine m_J_run hM 2 rfl ⟨trivial, trivial, trivial⟩ ?_
  refine m_callV (as := []) (rest := [.ref c]) (m_EX_warm E N xs) hM rfl kw_X3_68 rfl rfl (hA.1.1) ⟨_, rfl, rfl⟩ (t_use (R := (k_rw g n 14 (k_ru g n R).2)) hA.2.2.1 hA.1) rfl (Nat.le_of_ble_eq_true rfl) (Nat.le_of_ble_eq_true rfl) (Nat.le_of_ble_eq_true rfl) (fun ht => ⟨ht, by simp⟩) ?_
  replace hA := k_RL_z (R' := (k_ru g n (k_rw g n 14 (k_ru g n R).2)).2) hA (k_ru_le hA.2.2.1).1
  replace hF := k_fr_s (k := z) (c := k_rd tp (k_ru g n (k_rw g n 14 (k_ru g n R).2)).2.1 (k_ru g n (k_rw g n 14 (k_ru g n R).2)).2.2) hF (by simp)
  show m_J _ _ _ _ _ _ _ _ _ _ _ _ (_, _, _, H.set z (k_rd tp (k_ru g n (k_rw g n 14 (k_ru g n R).2)).2.1 (k_ru g n (k_rw g n 14 (k_ru g n R).2)).2.2))
  generalize H.set z (k_rd tp (k_ru g n (k_rw g n 14 (k_ru g n R).2)).2.1 (k_ru g n (k_rw g n 14 (k_ru g n R).2)).2.2) = H at hA hF ⊢
  refine m_J_putf hM rfl rfl (hA.2.1) (rfl) ?_
  replace hA := k_RL_c (q' := (6, (k_ru g n R).1, q.2.2.1, (k_ru g n (k_rw g n 14 (k_ru g n R).2)).1, q.2.2.2.2)) hA (⟨hA.2.2.2.1, hA.2.2.2.2.1, hA.2.2.2.2.2.1, hv, hA.2.2.2.2.2.2.2.1, hA.2.2.2.2.2.2.2.2.1, hA.2.2.2.2.2.2.2.2.2⟩)
  replace hF := k_fr_s (k := c) (c := k_ln (6, (k_ru g n R).1, q.2.2.1, (k_ru g n (k_rw g n 14 (k_ru g n R).2)).1, q.2.2.2.2)) hF (by simp)
  show m_J _ _ _ _ _ _ _ _ _ _ _ _ (_, _, _, H.set c (k_ln (6, (k_ru g n R).1, q.2.2.1, (k_ru g n (k_rw g n 14 (k_ru g n R).2)).1, q.2.2.2.2)))
  generalize H.set c (k_ln (6, (k_ru g n R).1, q.2.2.1, (k_ru g n (k_rw g n 14 (k_ru g n R).2)).1, q.2.2.2.2)) = H at hA hF ⊢
  refine m_J_run hM 1 rfl ⟨trivial, trivial⟩ ?_
  refine m_J_ldcS (si := 15) hM rfl rfl ?_
  refine m_callV (as := [.ref (1000001 + 15)]) (rest := []) (m_EX_warm E N xs) hM rfl kw_X3_112 rfl rfl (hA.1.1) ⟨_, rfl, rfl⟩ (t_word (R := (k_ru g n (k_rw g n 14 (k_ru g n R).2)).2) (by decide) hA.2.2.1 hA.1) rfl (Nat.le_of_ble_eq_true rfl) (Nat.le_of_ble_eq_true rfl) (Nat.le_of_ble_eq_true rfl) (fun ht => ⟨ht, by simp⟩) ?_
  replace hA := k_RL_z (R' := k_rw g n 15 (k_ru g n (k_rw g n 14 (k_ru g n R).2)).2) hA (k_rw_le hA.2.2.1)
  replace hF := k_fr_s (k := z) (c := k_rd tp (k_rw g n 15 (k_ru g n (k_rw g n 14 (k_ru g n R).2)).2).1 (k_rw g n 15 (k_ru g n (k_rw g n 14 (k_ru g n R).2)).2).2) hF (by simp)
  show m_J _ _ _ _ _ _ _ _ _ _ _ _ (_, _, _, H.set z (k_rd tp (k_rw g n 15 (k_ru g n (k_rw g n 14 (k_ru g n R).2)).2).1 (k_rw g n 15 (k_ru g n (k_rw g n 14 (k_ru g n R).2)).2).2))
  generalize H.set z (k_rd tp (k_rw g n 15 (k_ru g n (k_rw g n 14 (k_ru g n R).2)).2).1 (k_rw g n 15 (k_ru g n (k_rw g n 14 (k_ru g n R).2)).2).2) = H at hA hF ⊢
  have hw := (k_ru_le (g := g) hA.2.2.1).2
  refine m_J_run hM 2 rfl ⟨trivial, trivial, trivial⟩ ?_
  refine m_callV (as := []) (rest := [.ref c]) (m_EX_warm E N xs) hM rfl kw_X3_68 rfl rfl (hA.1.1) ⟨_, rfl, rfl⟩ (t_use (R := (k_rw g n 15 (k_ru g n (k_rw g n 14 (k_ru g n R).2)).2)) hA.2.2.1 hA.1) rfl (Nat.le_of_ble_eq_true rfl) (Nat.le_of_ble_eq_true rfl) (Nat.le_of_ble_eq_true rfl) (fun ht => ⟨ht, by simp⟩) ?_
  replace hA := k_RL_z (R' := (k_ru g n (k_rw g n 15 (k_ru g n (k_rw g n 14 (k_ru g n R).2)).2)).2) hA (k_ru_le hA.2.2.1).1
  replace hF := k_fr_s (k := z) (c := k_rd tp (k_ru g n (k_rw g n 15 (k_ru g n (k_rw g n 14 (k_ru g n R).2)).2)).2.1 (k_ru g n (k_rw g n 15 (k_ru g n (k_rw g n 14 (k_ru g n R).2)).2)).2.2) hF (by simp)
  show m_J _ _ _ _ _ _ _ _ _ _ _ _ (_, _, _, H.set z (k_rd tp (k_ru g n (k_rw g n 15 (k_ru g n (k_rw g n 14 (k_ru g n R).2)).2)).2.1 (k_ru g n (k_rw g n 15 (k_ru g n (k_rw g n 14 (k_ru g n R).2)).2)).2.2))
  generalize H.set z (k_rd tp (k_ru g n (k_rw g n 15 (k_ru g n (k_rw g n 14 (k_ru g n R).2)).2)).2.1 (k_ru g n (k_rw g n 15 (k_ru g n (k_rw g n 14 (k_ru g n R).2)).2)).2.2) = H at hA hF ⊢
  refine m_J_putf hM rfl rfl (hA.2.1) (rfl) ?_
  replace hA := k_RL_c (q' := (6, (k_ru g n R).1, (k_ru g n (k_rw g n 15 (k_ru g n (k_rw g n 14 (k_ru g n R).2)).2)).1, (k_ru g n (k_rw g n 14 (k_ru g n R).2)).1, q.2.2.2.2)) hA (⟨hA.2.2.2.1, hA.2.2.2.2.1, hw, hA.2.2.2.2.2.2.1, hA.2.2.2.2.2.2.2.1, hA.2.2.2.2.2.2.2.2.1, hA.2.2.2.2.2.2.2.2.2⟩)
  replace hF := k_fr_s (k := c) (c := k_ln (6, (k_ru g n R).1, (k_ru g n (k_rw g n 15 (k_ru g n (k_rw g n 14 (k_ru g n R).2)).2)).1, (k_ru g n (k_rw g n 14 (k_ru g n R).2)).1, q.2.2.2.2)) hF (by simp)
  show m_J _ _ _ _ _ _ _ _ _ _ _ _ (_, _, _, H.set c (k_ln (6, (k_ru g n R).1, (k_ru g n (k_rw g n 15 (k_ru g n (k_rw g n 14 (k_ru g n R).2)).2)).1, (k_ru g n (k_rw g n 14 (k_ru g n R).2)).1, q.2.2.2.2)))
  generalize H.set c (k_ln (6, (k_ru g n R).1, (k_ru g n (k_rw g n 15 (k_ru g n (k_rw g n 14 (k_ru g n R).2)).2)).1, (k_ru g n (k_rw g n 14 (k_ru g n R).2)).1, q.2.2.2.2)) = H at hA hF ⊢
  refine m_J_run hM 1 rfl ⟨trivial, trivial⟩ ?_
  refine m_J_ldcS (si := 16) hM rfl rfl ?_
  refine m_callV (as := [.ref (1000001 + 16)]) (rest := []) (m_EX_warm E N xs) hM rfl kw_X3_112 rfl rfl (hA.1.1) ⟨_, rfl, rfl⟩ (t_word (R := (k_ru g n (k_rw g n 15 (k_ru g n (k_rw g n 14 (k_ru g n R).2)).2)).2) (by decide) hA.2.2.1 hA.1) rfl (Nat.le_of_ble_eq_true rfl) (Nat.le_of_ble_eq_true rfl) (Nat.le_of_ble_eq_true rfl) (fun ht => ⟨ht, by simp⟩) ?_
  replace hA := k_RL_z (R' := k_rw g n 16 (k_ru g n (k_rw g n 15 (k_ru g n (k_rw g n 14 (k_ru g n R).2)).2)).2) hA (k_rw_le hA.2.2.1)
  replace hF := k_fr_s (k := z) (c := k_rd tp (k_rw g n 16 (k_ru g n (k_rw g n 15 (k_ru g n (k_rw g n 14 (k_ru g n R).2)).2)).2).1 (k_rw g n 16 (k_ru g n (k_rw g n 15 (k_ru g n (k_rw g n 14 (k_ru g n R).2)).2)).2).2) hF (by simp)
  show m_J _ _ _ _ _ _ _ _ _ _ _ _ (_, _, _, H.set z (k_rd tp (k_rw g n 16 (k_ru g n (k_rw g n 15 (k_ru g n (k_rw g n 14 (k_ru g n R).2)).2)).2).1 (k_rw g n 16 (k_ru g n (k_rw g n 15 (k_ru g n (k_rw g n 14 (k_ru g n R).2)).2)).2).2))
  generalize H.set z (k_rd tp (k_rw g n 16 (k_ru g n (k_rw g n 15 (k_ru g n (k_rw g n 14 (k_ru g n R).2)).2)).2).1 (k_rw g n 16 (k_ru g n (k_rw g n 15 (k_ru g n (k_rw g n 14 (k_ru g n R).2)).2)).2).2) = H at hA hF ⊢
  refine m_J_run hM 4 rfl ⟨trivial, trivial, trivial, trivial, trivial⟩ ?_
  have hnu := k_nu_ok (g := g) (n := n) (p := (k_rw g n 16 (k_ru g n (k_rw g n 15 (k_ru g n (k_rw g n 14 (k_ru g n R).2)).2)).2).1) (lo := 1) (hi := 5) (by omega) (by omega)
  refine m_callV (as := [.int (nI 1), .int (nI 5)]) (rest := [.ref c]) (m_EX_warm E N xs) hM rfl kw_X3_79 rfl rfl (hA.1.1) ⟨_, rfl, rfl⟩ (t_num (R := (k_rw g n 16 (k_ru g n (k_rw g n 15 (k_ru g n (k_rw g n 14 (k_ru g n R).2)).2)).2)) (by omega) (by omega) hA.2.2.1 hA.1) rfl (Nat.le_of_ble_eq_true rfl) (Nat.le_of_ble_eq_true rfl) (Nat.le_of_ble_eq_true rfl) (fun ht => ⟨ht, by simp⟩) ?_
  replace hA := k_RL_z (R' := k_nr g n 1 5 (k_rw g n 16 (k_ru g n (k_rw g n 15 (k_ru g n (k_rw g n 14 (k_ru g n R).2)).2)).2)) hA (k_nr_le hA.2.2.1)
  replace hF := k_fr_s (k := z) (c := k_rd tp (k_nr g n 1 5 (k_rw g n 16 (k_ru g n (k_rw g n 15 (k_ru g n (k_rw g n 14 (k_ru g n R).2)).2)).2)).1 (k_nr g n 1 5 (k_rw g n 16 (k_ru g n (k_rw g n 15 (k_ru g n (k_rw g n 14 (k_ru g n R).2)).2)).2)).2) hF (by simp)
  show m_J _ _ _ _ _ _ _ _ _ _ _ _ (_, _, _, H.set z (k_rd tp (k_nr g n 1 5 (k_rw g n 16 (k_ru g n (k_rw g n 15 (k_ru g n (k_rw g n 14 (k_ru g n R).2)).2)).2)).1 (k_nr g n 1 5 (k_rw g n 16 (k_ru g n (k_rw g n 15 (k_ru g n (k_rw g n 14 (k_ru g n R).2)).2)).2)).2))
  generalize H.set z (k_rd tp (k_nr g n 1 5 (k_rw g n 16 (k_ru g n (k_rw g n 15 (k_ru g n (k_rw g n 14 (k_ru g n R).2)).2)).2)).1 (k_nr g n 1 5 (k_rw g n 16 (k_ru g n (k_rw g n 15 (k_ru g n (k_rw g n 14 (k_ru g n R).2)).2)).2)).2) = H at hA hF ⊢
  refine m_J_putf hM rfl rfl (hA.2.1) (rfl) ?_
  replace hA := k_RL_c (q' := (6, (k_ru g n R).1, (k_ru g n (k_rw g n 15 (k_ru g n (k_rw g n 14 (k_ru g n R).2)).2)).1, (k_ru g n (k_rw g n 14 (k_ru g n R).2)).1, k_nu g n (k_rw g n 16 (k_ru g n (k_rw g n 15 (k_ru g n (k_rw g n 14 (k_ru g n R).2)).2)).2).1 1 5, q.2.2.2.2.2)) hA (⟨hA.2.2.2.1, hA.2.2.2.2.1, hA.2.2.2.2.2.1, hA.2.2.2.2.2.2.1, hnu.2.1, hA.2.2.2.2.2.2.2.2.1, fun h => absurd h (by simp)⟩)
  replace hF := k_fr_s (k := c) (c := k_ln (6, (k_ru g n R).1, (k_ru g n (k_rw g n 15 (k_ru g n (k_rw g n 14 (k_ru g n R).2)).2)).1, (k_ru g n (k_rw g n 14 (k_ru g n R).2)).1, k_nu g n (k_rw g n 16 (k_ru g n (k_rw g n 15 (k_ru g n (k_rw g n 14 (k_ru g n R).2)).2)).2).1 1 5, q.2.2.2.2.2)) hF (by simp)
  show m_J _ _ _ _ _ _ _ _ _ _ _ _ (_, _, _, H.set c (k_ln (6, (k_ru g n R).1, (k_ru g n (k_rw g n 15 (k_ru g n (k_rw g n 14 (k_ru g n R).2)).2)).1, (k_ru g n (k_rw g n 14 (k_ru g n R).2)).1, k_nu g n (k_rw g n 16 (k_ru g n (k_rw g n 15 (k_ru g n (k_rw g n 14 (k_ru g n R).2)).2)).2).1 1 5, q.2.2.2.2.2)))
  generalize H.set c (k_ln (6, (k_ru g n R).1, (k_ru g n (k_rw g n 15 (k_ru g n (k_rw g n 14 (k_ru g n R).2)).2)).1, (k_ru g n (k_rw g n 14 (k_ru g n R).2)).1, k_nu g n (k_rw g n 16 (k_ru g n (k_rw g n 15 (k_ru g n (k_rw g n 14 (k_ru g n R).2)).2)).2).1 1 5, q.2.2.2.2.2)) = H at hA hF ⊢
  refine m_J_run hM 4 rfl ⟨trivial, trivial, trivial, trivial, trivial⟩ ?_
  refine m_callV (as := [.int (nI 1), .int (nI 60)]) (rest := [.ref c]) (m_EX_warm E N xs) hM rfl kw_X3_79 rfl rfl (hA.1.1) ⟨_, rfl, rfl⟩ (t_num (R := (k_nr g n 1 5 (k_rw g n 16 (k_ru g n (k_rw g n 15 (k_ru g n (k_rw g n 14 (k_ru g n R).2)).2)).2))) (by omega) (by omega) hA.2.2.1 hA.1) rfl (Nat.le_of_ble_eq_true rfl) (Nat.le_of_ble_eq_true rfl) (Nat.le_of_ble_eq_true rfl) (fun ht => ⟨ht, by simp⟩) ?_
  replace hA := k_RL_z (R' := k_nr g n 1 60 (k_nr g n 1 5 (k_rw g n 16 (k_ru g n (k_rw g n 15 (k_ru g n (k_rw g n 14 (k_ru g n R).2)).2)).2))) hA (k_nr_le hA.2.2.1)
  replace hF := k_fr_s (k := z) (c := k_rd tp (k_nr g n 1 60 (k_nr g n 1 5 (k_rw g n 16 (k_ru g n (k_rw g n 15 (k_ru g n (k_rw g n 14 (k_ru g n R).2)).2)).2))).1 (k_nr g n 1 60 (k_nr g n 1 5 (k_rw g n 16 (k_ru g n (k_rw g n 15 (k_ru g n (k_rw g n 14 (k_ru g n R).2)).2)).2))).2) hF (by simp)
  show m_J _ _ _ _ _ _ _ _ _ _ _ _ (_, _, _, H.set z (k_rd tp (k_nr g n 1 60 (k_nr g n 1 5 (k_rw g n 16 (k_ru g n (k_rw g n 15 (k_ru g n (k_rw g n 14 (k_ru g n R).2)).2)).2))).1 (k_nr g n 1 60 (k_nr g n 1 5 (k_rw g n 16 (k_ru g n (k_rw g n 15 (k_ru g n (k_rw g n 14 (k_ru g n R).2)).2)).2))).2))
  generalize H.set z (k_rd tp (k_nr g n 1 60 (k_nr g n 1 5 (k_rw g n 16 (k_ru g n (k_rw g n 15 (k_ru g n (k_rw g n 14 (k_ru g n R).2)).2)).2))).1 (k_nr g n 1 60 (k_nr g n 1 5 (k_rw g n 16 (k_ru g n (k_rw g n 15 (k_ru g n (k_rw g n 14 (k_ru g n R).2)).2)).2))).2) = H at hA hF ⊢
  refine m_J_putf hM rfl rfl (hA.2.1) (rfl) ?_
  replace hA := k_RL_c (q' := (6, (k_ru g n R).1, (k_ru g n (k_rw g n 15 (k_ru g n (k_rw g n 14 (k_ru g n R).2)).2)).1, (k_ru g n (k_rw g n 14 (k_ru g n R).2)).1, k_nu g n (k_rw g n 16 (k_ru g n (k_rw g n 15 (k_ru g n (k_rw g n 14 (k_ru g n R).2)).2)).2).1 1 5, q.2.2.2.2.2.1, nI (k_nu g n (k_nr g n 1 5 (k_rw g n 16 (k_ru g n (k_rw g n 15 (k_ru g n (k_rw g n 14 (k_ru g n R).2)).2)).2)).1 1 60))) hA (⟨hA.2.2.2.1, hA.2.2.2.2.1, hA.2.2.2.2.2.1, hA.2.2.2.2.2.2.1, hA.2.2.2.2.2.2.2.1, hA.2.2.2.2.2.2.2.2.1, hA.2.2.2.2.2.2.2.2.2⟩)
  replace hF := k_fr_s (k := c) (c := k_ln (6, (k_ru g n R).1, (k_ru g n (k_rw g n 15 (k_ru g n (k_rw g n 14 (k_ru g n R).2)).2)).1, (k_ru g n (k_rw g n 14 (k_ru g n R).2)).1, k_nu g n (k_rw g n 16 (k_ru g n (k_rw g n 15 (k_ru g n (k_rw g n 14 (k_ru g n R).2)).2)).2).1 1 5, q.2.2.2.2.2.1, nI (k_nu g n (k_nr g n 1 5 (k_rw g n 16 (k_ru g n (k_rw g n 15 (k_ru g n (k_rw g n 14 (k_ru g n R).2)).2)).2)).1 1 60))) hF (by simp)
  show m_J _ _ _ _ _ _ _ _ _ _ _ _ (_, _, _, H.set c (k_ln (6, (k_ru g n R).1, (k_ru g n (k_rw g n 15 (k_ru g n (k_rw g n 14 (k_ru g n R).2)).2)).1, (k_ru g n (k_rw g n 14 (k_ru g n R).2)).1, k_nu g n (k_rw g n 16 (k_ru g n (k_rw g n 15 (k_ru g n (k_rw g n 14 (k_ru g n R).2)).2)).2).1 1 5, q.2.2.2.2.2.1, nI (k_nu g n (k_nr g n 1 5 (k_rw g n 16 (k_ru g n (k_rw g n 15 (k_ru g n (k_rw g n 14 (k_ru g n R).2)).2)).2)).1 1 60))))
  generalize H.set c (k_ln (6, (k_ru g n R).1, (k_ru g n (k_rw g n 15 (k_ru g n (k_rw g n 14 (k_ru g n R).2)).2)).1, (k_ru g n (k_rw g n 14 (k_ru g n R).2)).1, k_nu g n (k_rw g n 16 (k_ru g n (k_rw g n 15 (k_ru g n (k_rw g n 14 (k_ru g n R).2)).2)).2).1 1 5, q.2.2.2.2.2.1, nI (k_nu g n (k_nr g n 1 5 (k_rw g n 16 (k_ru g n (k_rw g n 15 (k_ru g n (k_rw g n 14 (k_ru g n R).2)).2)).2)).1 1 60))) = H at hA hF ⊢
  exact m_J_vret hM rfl rfl (Nat.le_refl _) (Nat.le_refl _) ⟨rfl, rfl, hA, hF⟩
set_option maxHeartbeats 2000000 in
theorem t_line (hA : k_RL h z tp tb n g c R q) : m_Sp l (m_EX E N xs) E mM_X3_readLine (d + 7) 0 0 [.ref z, .ref c] h tg (fun v H tg' => v = none ∧ tg' = tg ∧ k_RL H z tp tb n g c (k_rline g n q R).2 (k_rline g n q R).1 ∧ k_fr [z, c] h H) m_no := by
  have hM := mM_X3_readLine_ok
  unfold k_rline
  dsimp only
  refine m_Sp_of (by decide) (Nat.le_of_ble_eq_true rfl) ?_
  obtain ⟨H, hH⟩ : ∃ H, H = h := ⟨h, rfl⟩
  have hF : k_fr [z, c] h H := by rw [hH]; exact k_fr_r _ h
  rw [← hH] at hA
  rw [show (0, m_ent [Value.ref z, Value.ref c] mM_X3_readLine.2.2.1, ([] : List Value), h) = (0, m_ent [Value.ref z, Value.ref c] mM_X3_readLine.2.2.1, [], H) by rw [hH]]
  clear hH
  refine m_J_run hM 1 rfl ⟨trivial, trivial⟩ ?_
  refine m_J_ldcS (si := 3) hM rfl rfl ?_
  refine m_callV (as := [.ref (1000001 + 3)]) (rest := []) (m_EX_warm E N xs) hM rfl kw_X3_53 rfl rfl (hA.1.1) ⟨_, rfl, rfl⟩ (t_sw (R := R) (by decide) hA.2.2.1 hA.1) rfl (Nat.le_of_ble_eq_true rfl) (Nat.le_of_ble_eq_true rfl) (Nat.le_of_ble_eq_true rfl) (fun ht => ⟨ht, by simp⟩) ?_
  replace hA := k_RL_z (R' := k_step g n 3 R) hA (k_step_le hA.2.2.1)
  replace hF := k_fr_s (k := z) (c := k_rd tp (k_step g n 3 R).1 (k_step g n 3 R).2) hF (by simp)
  show m_J _ _ _ _ _ _ _ _ _ _ _ _ (_, _, _, H.set z (k_rd tp (k_step g n 3 R).1 (k_step g n 3 R).2))
  generalize H.set z (k_rd tp (k_step g n 3 R).1 (k_step g n 3 R).2) = H at hA hF ⊢
  refine m_J_run hM 1 rfl ⟨trivial, trivial⟩ ?_
  refine m_J_if (fun hc => ?_) (fun hc => ?_)
  case refine_2 =>
    have hc2 := k_z1 hc
    rw [if_pos hc2]
    refine m_J_run hM 2 rfl ⟨trivial, trivial, trivial⟩ ?_
    refine m_J_callV (as := [.ref c]) (rest := []) (m_EX_warm E N xs) hM rfl kw_X3_57 rfl rfl rfl hA.1.1 ⟨_, rfl, rfl⟩ (Nat.le_of_ble_eq_true rfl) (Nat.le_of_ble_eq_true rfl) (Nat.le_of_ble_eq_true rfl) (t_law (R := k_step g n 3 R) hA) (fun v' h' tg' hp => ?_) (fun nm h' hp => hp.elim)
    obtain ⟨rfl, rfl, hp1, hp2⟩ := hp
    refine ⟨fun ht => ⟨ht, by rw [hp2.1]; exact Nat.le_refl _⟩, ?_⟩
    replace hF := k_fr_t hF hp2
    refine m_J_run hM 1 rfl ⟨trivial, trivial⟩ ?_
    exact m_J_vret hM rfl rfl (Nat.le_refl _) (Nat.le_refl _) ⟨rfl, rfl, hp1, hF⟩
  have hc2 := k_z0 hc
  rw [if_neg (by rw [hc2]; decide)]
  clear hc hc2
  refine m_J_run hM 1 rfl ⟨trivial, trivial⟩ ?_
  refine m_J_ldcS (si := 13) hM rfl rfl ?_
  refine m_callV (as := [.ref (1000001 + 13)]) (rest := []) (m_EX_warm E N xs) hM rfl kw_X3_53 rfl rfl (hA.1.1) ⟨_, rfl, rfl⟩ (t_sw (R := (k_step g n 3 R)) (by decide) hA.2.2.1 hA.1) rfl (Nat.le_of_ble_eq_true rfl) (Nat.le_of_ble_eq_true rfl) (Nat.le_of_ble_eq_true rfl) (fun ht => ⟨ht, by simp⟩) ?_
  replace hA := k_RL_z (R' := k_step g n 13 (k_step g n 3 R)) hA (k_step_le hA.2.2.1)
  replace hF := k_fr_s (k := z) (c := k_rd tp (k_step g n 13 (k_step g n 3 R)).1 (k_step g n 13 (k_step g n 3 R)).2) hF (by simp)
  show m_J _ _ _ _ _ _ _ _ _ _ _ _ (_, _, _, H.set z (k_rd tp (k_step g n 13 (k_step g n 3 R)).1 (k_step g n 13 (k_step g n 3 R)).2))
  generalize H.set z (k_rd tp (k_step g n 13 (k_step g n 3 R)).1 (k_step g n 13 (k_step g n 3 R)).2) = H at hA hF ⊢
  refine m_J_run hM 1 rfl ⟨trivial, trivial⟩ ?_
  refine m_J_if (fun hc => ?_) (fun hc => ?_)
  case refine_2 =>
    have hc2 := k_z1 hc
    rw [if_pos hc2]
    refine m_J_run hM 2 rfl ⟨trivial, trivial, trivial⟩ ?_
    refine m_J_callV (as := [.ref c]) (rest := []) (m_EX_warm E N xs) hM rfl kw_X3_62 rfl rfl rfl hA.1.1 ⟨_, rfl, rfl⟩ (Nat.le_of_ble_eq_true rfl) (Nat.le_of_ble_eq_true rfl) (Nat.le_of_ble_eq_true rfl) (t_grow (R := k_step g n 13 (k_step g n 3 R)) hA) (fun v' h' tg' hp => ?_) (fun nm h' hp => hp.elim)
    obtain ⟨rfl, rfl, hp1, hp2⟩ := hp
    refine ⟨fun ht => ⟨ht, by rw [hp2.1]; exact Nat.le_refl _⟩, ?_⟩
    replace hF := k_fr_t hF hp2
    refine m_J_run hM 1 rfl ⟨trivial, trivial⟩ ?_
    exact m_J_vret hM rfl rfl (Nat.le_refl _) (Nat.le_refl _) ⟨rfl, rfl, hp1, hF⟩
  have hc2 := k_z0 hc
  rw [if_neg (by rw [hc2]; decide)]
  clear hc hc2
  refine m_J_run hM 2 rfl ⟨trivial, trivial, trivial⟩ ?_
  refine m_J_callV (as := [.ref c]) (rest := []) (m_EX_warm E N xs) hM rfl kw_X3_65 rfl rfl rfl hA.1.1 ⟨_, rfl, rfl⟩ (Nat.le_of_ble_eq_true rfl) (Nat.le_of_ble_eq_true rfl) (Nat.le_of_ble_eq_true rfl) (t_worth (R := k_step g n 13 (k_step g n 3 R)) hA) (fun v' h' tg' hp => ?_) (fun nm h' hp => hp.elim)
  obtain ⟨rfl, rfl, hp1, hp2⟩ := hp
  refine ⟨fun ht => ⟨ht, by rw [hp2.1]; exact Nat.le_refl _⟩, ?_⟩
  replace hF := k_fr_t hF hp2
  exact m_J_vret hM rfl rfl (Nat.le_refl _) (Nat.le_refl _) ⟨rfl, rfl, hp1, hF⟩
end
end
section
/-! READER: semicolons and the whole book -/
def k_rs (g : Nat → Int32) (n : Nat) (R : kR) : Bool × kR :=
  if R.2 ≠ -nI 1 ∨ k_at g n (k_sb g n R.1) = -nI 1 then (false, (k_sb g n R.1, R.2))
  else if k_at g n (k_sb g n R.1) = nI 59 then (true, (k_sb g n R.1 + 1, R.2)) else (false, k_refuse (k_sb g n R.1, R.2))
theorem k_rs_le {g : Nat → Int32} {n : Nat} {R : kR} (hp : R.1 ≤ n) : (k_rs g n R).2.1 ≤ n := by
  have h1 := (k_sb_le (g := g) hp).2
  unfold k_rs
  split
  · exact h1
  · split
    · rename_i h3
      rcases Nat.lt_or_ge (k_sb g n R.1) n with q | q
      · exact q
      · exfalso
        rw [k_at, if_neg (by omega)] at h3
        exact absurd h3 (by decide)
    · exact h1
def k_uq (q : Nat → kL) (i : Nat) (x : kL) : Nat → kL := fun j => if j = i then x else q j
def k_ril (g : Nat → Int32) (n : Nat) : Nat → Nat → kR → (Nat → kL) → Bool → Nat × Bool × kR × (Nat → kL)
  | 0, i, R, q, b => (i, b, R, q)
  | f + 1, i, R, q, b => if b then k_ril g n f (i + 1) (k_rs g n (k_rline g n (q i) R).2).2 (k_uq q i (k_rline g n (q i) R).1) (k_rs g n (k_rline g n (q i) R).2).1 else (i, b, R, q)
def k_ri0 (g : Nat → Int32) (n : Nat) (q : Nat → kL) : Nat × Bool × kR × (Nat → kL) := k_ril g n 14 0 (k_sb g n 0, -nI 1) q (decide (k_at g n (k_sb g n 0) ≠ -nI 1))
def k_ri (g : Nat → Int32) (n : Nat) (q : Nat → kL) : Nat × kR × (Nat → kL) :=
  ((k_ri0 g n q).1, (if (k_ri0 g n q).2.1 then k_refuse (k_sb g n (k_ri0 g n q).2.2.1.1, (k_ri0 g n q).2.2.1.2) else (k_ri0 g n q).2.2.1), (k_ri0 g n q).2.2.2)
theorem k_fr_w {A B : List Nat} {h H : mH} (h1 : k_fr A h H) (hs : ∀ k, k ∈ A → k ∈ B) : k_fr B h H := ⟨h1.1, fun k hk => h1.2 k (fun q => hk (hs k q))⟩
theorem m_J_eqH {l : Launch} {EX : State → Prop} {E : mE} {M : mM} {d mc ms : Nat} {PR : Option Value → mH → Bool → Prop} {PX : String → mH → Prop} {tg : Bool} {kc ks pc : Nat} {L : List (Option Value)} {st : List Value} {H H' : mH} (he : H = H') (h2 : m_J l EX E M d mc ms PR PX tg kc ks (pc, L, st, H')) : m_J l EX E M d mc ms PR PX tg kc ks (pc, L, st, H) := he ▸ h2
theorem k_BK_fr {h H : mH} {a rw : Nat} {ad : Nat → Nat} {n : Nat} {q : Nat → kL} {z i : Nat} {x : kL} {fs : List Value} (hB : k_BK h a rw ad n q) (hin : ∀ i j, i < 14 → j < 14 → ad i = ad j → i = j) (hi : i < 14) (hz : h[z]? = some (.inr (3, fs))) (hF : k_fr [z, ad i] h H) (hx : H[ad i]? = some (k_ln x)) (hk : k_lok x) : k_BK H a rw ad n (k_uq q i x) := by
  obtain ⟨h1, h2, h3, h4, h5⟩ := hB
  have e1 : a ≠ z := k_neO h1 hz (by decide)
  have e2 : a ≠ ad i := k_neO h1 (h3 i hi) (by decide)
  have e3 : rw ≠ z := Ne.symm (k_ne hz h2)
  have e4 : rw ≠ ad i := Ne.symm (k_ne (h3 i hi) h2)
  refine ⟨by rw [hF.2 a (by simp [e1, e2])]; exact h1, by rw [hF.2 rw (by simp [e3, e4])]; exact h2, ?_, h4, ?_⟩
  · intro j hj
    by_cases e : j = i
    · subst e
      rw [k_uq, if_pos rfl]
      exact hx
    · rw [k_uq, if_neg e, hF.2 (ad j) (by simp [k_neO (h3 j hj) hz (by decide)]; exact fun q => e (hin j i hj hi q))]
      exact h3 j hj
  · intro j hj
    rw [k_uq]
    split
    · exact hk
    · exact h5 j hj
theorem k_BK_z {h : mH} {a rw : Nat} {ad : Nat → Nat} {n : Nat} {q : Nat → kL} {z ci : Nat} {fs : List Value} {c : va_E} (hB : k_BK h a rw ad n q) (hz : h[z]? = some (.inr (ci, fs))) (h0 : ci ≠ 0) (h2' : ci ≠ 2) : k_BK (h.set z c) a rw ad n q := by
  obtain ⟨h1, h2, h3, h4⟩ := hB
  exact ⟨k_sn (k_neO h1 hz (Ne.symm h0)) h1, k_sn (Ne.symm (k_ne hz h2)) h2, fun i hi => k_sn (k_neO (h3 i hi) hz (Ne.symm h2')) (h3 i hi), h4⟩
theorem k_BK_n {h : mH} {a rw : Nat} {ad : Nat → Nat} {n n' : Nat} {q : Nat → kL} (hB : k_BK h a rw ad n q) (hn : n' ≤ 14) : k_BK (h.set a (.inr (0, [.ref rw, .int (nI n')]))) a rw ad n' q := by
  obtain ⟨h1, h2, h3, h4, h5⟩ := hB
  exact ⟨k_ss h1, k_sn (Ne.symm (k_ne h1 h2)) h2, fun i hi => k_sn (k_neO (h3 i hi) h1 (by decide)) (h3 i hi), hn, h5⟩
theorem k_TP_o {h : mH} {z tp tb p : Nat} {wr : Int32} {n : Nat} {g : Nat → Int32} {a ci : Nat} {fs : List Value} {c : va_E} (hT : k_TP h z tp tb p wr n g) (ha : h[a]? = some (.inr (ci, fs))) (h3' : ci ≠ 3) (h5' : ci ≠ 5) : k_TP (h.set a c) z tp tb p wr n g := by
  obtain ⟨h1, h2, h3, h4⟩ := hT
  exact ⟨k_sn (k_neO h1 ha (Ne.symm h3')) h1, k_sn (k_neO h2 ha (Ne.symm h5')) h2, k_sn (Ne.symm (k_ne ha h3)) h3, h4⟩
section
variable {l : Launch} {E : mE} {N : Nat} {xs : Nat → Int32} {d : Nat} {tg : Bool} {h : mH} {z tp tb : Nat} {R : kR} {n : Nat} {g : Nat → Int32}
theorem t_semi (hp : R.1 ≤ n) (hT : k_TP h z tp tb R.1 R.2 n g) : m_Dt l (m_EX E N xs) E mM_X3_readSemicolon (d + 2) 0 0 [.ref z] h tg (some (.int (k_z (k_rs g n R).1))) (h.set z (k_rd tp (k_rs g n R).2.1 (k_rs g n R).2.2)) tg := by
  have hM := mM_X3_readSemicolon_ok
  refine m_Sp_of (by decide) (Nat.le_of_ble_eq_true rfl) ?_
  obtain ⟨p, wr⟩ := R
  dsimp only at hp hT ⊢
  unfold k_rs k_refuse
  dsimp only
  refine m_J_run hM 1 rfl ⟨trivial, trivial⟩ ?_
  refine m_callV (as := []) (rest := []) (m_EX_warm E N xs) hM rfl kw_X3_27 rfl rfl (hT.1) ⟨_, rfl, rfl⟩ (t_sb hp hT) rfl (Nat.le_of_ble_eq_true rfl) (Nat.le_of_ble_eq_true rfl) (Nat.le_of_ble_eq_true rfl) (fun ht => ⟨ht, by simp⟩) ?_
  replace hT := k_TP_z (p' := k_sb g n p) (wr' := wr) hT
  have hp2 := (k_sb_le (g := g) hp).2
  have hn := hT.2.2.2
  rw [← k_s2 h z (k_rd tp (k_sb g n p) wr)]
  generalize h.set z (k_rd tp (k_sb g n p) wr) = H at hT ⊢
  generalize k_sb g n p = P at hT hp2 ⊢
  obtain ⟨h1, h2, h3, h4⟩ := id hT
  refine m_J_run hM 1 rfl ⟨trivial, trivial⟩ ?_
  refine m_J_getf hM rfl rfl (h1) (rfl) ?_
  refine m_J_run hM 2 rfl ⟨trivial, trivial, trivial⟩ ?_
  refine m_J_if (fun hc => ?_) (fun hc => ?_)
  · refine m_J_run hM 1 rfl ⟨trivial, trivial⟩ ?_
    exact m_iret hM rfl rfl (by decide) (Nat.le_of_ble_eq_true rfl) (Nat.le_of_ble_eq_true rfl) (by rw [if_pos (Or.inl hc)]; rfl) (by rw [if_pos (Or.inl hc), k_s0 h1])
  have hw : wr = -nI 1 := Classical.not_not.mp hc
  refine m_J_run hM 1 rfl ⟨trivial, trivial⟩ ?_
  refine m_J_getf hM rfl rfl (h1) (rfl) ?_
  refine m_J_run hM 1 rfl ⟨trivial, trivial⟩ ?_
  refine m_J_getf hM rfl rfl (h1) (rfl) ?_
  refine m_callV (as := [.int (nI P)]) (rest := []) (m_EX_warm E N xs) hM rfl kw_X3_30 rfl rfl (h2) ⟨_, rfl, rfl⟩ (t_at (by omega) h2 h3 h4) rfl (Nat.le_of_ble_eq_true rfl) (Nat.le_of_ble_eq_true rfl) (Nat.le_of_ble_eq_true rfl) (fun ht => ⟨ht, by simp⟩) ?_
  refine m_J_run hM 2 rfl ⟨trivial, trivial, trivial⟩ ?_
  clear hc
  refine m_J_if (fun hc => ?_) (fun hc => ?_)
  case refine_2 =>
    have hc2 := Classical.not_not.mp hc
    refine m_J_run hM 1 rfl ⟨trivial, trivial⟩ ?_
    exact m_iret hM rfl rfl (by decide) (Nat.le_of_ble_eq_true rfl) (Nat.le_of_ble_eq_true rfl) (by rw [if_pos (Or.inr hc2)]; rfl) (by rw [if_pos (Or.inr hc2), k_s0 h1])
  rw [if_neg (fun q => q.elim (fun q => q hw) hc)]
  refine m_J_run hM 1 rfl ⟨trivial, trivial⟩ ?_
  refine m_J_getf hM rfl rfl (h1) (rfl) ?_
  refine m_J_run hM 1 rfl ⟨trivial, trivial⟩ ?_
  refine m_J_getf hM rfl rfl (h1) (rfl) ?_
  refine m_callV (as := [.int (nI P)]) (rest := []) (m_EX_warm E N xs) hM rfl kw_X3_30 rfl rfl (h2) ⟨_, rfl, rfl⟩ (t_at (by omega) h2 h3 h4) rfl (Nat.le_of_ble_eq_true rfl) (Nat.le_of_ble_eq_true rfl) (Nat.le_of_ble_eq_true rfl) (fun ht => ⟨ht, by simp⟩) ?_
  refine m_J_run hM 2 rfl ⟨trivial, trivial, trivial⟩ ?_
  clear hc
  refine m_J_if (fun hc => ?_) (fun hc => ?_)
  · rw [if_pos hc]
    refine m_J_run hM 2 rfl ⟨trivial, trivial, trivial⟩ ?_
    refine m_J_getf hM rfl rfl (h1) (rfl) ?_
    refine m_J_run hM 2 rfl ⟨trivial, trivial, trivial⟩ ?_
    refine m_J_putf hM rfl rfl (h1) (rfl) ?_
    refine m_J_run hM 1 rfl ⟨trivial, trivial⟩ ?_
    exact m_iret hM rfl rfl (by decide) (Nat.le_of_ble_eq_true rfl) (Nat.le_of_ble_eq_true rfl) (rfl) (by dsimp only; rw [← k_succ P]; rfl)
  · rw [if_neg hc]
    refine m_J_run hM 1 rfl ⟨trivial, trivial⟩ ?_
    refine m_callV (as := []) (rest := []) (m_EX_warm E N xs) hM rfl kw_X3_48 rfl rfl (h1) ⟨_, rfl, rfl⟩ (t_ref hT) rfl (Nat.le_of_ble_eq_true rfl) (Nat.le_of_ble_eq_true rfl) (Nat.le_of_ble_eq_true rfl) (fun ht => ⟨ht, by simp⟩) ?_
    refine m_J_run hM 1 rfl ⟨trivial, trivial⟩ ?_
    exact m_iret hM rfl rfl (by decide) (Nat.le_of_ble_eq_true rfl) (Nat.le_of_ble_eq_true rfl) (rfl) (rfl)
theorem t_into {bk rw : Nat} {ad : Nat → Nat} {m : Nat} {q : Nat → kL} (hin : ∀ i j, i < 14 → j < 14 → ad i = ad j → i = j) (hB : k_BK h bk rw ad m q) (hT : k_TP h z tp tb R.1 R.2 n g) : m_Sp l (m_EX E N xs) E mM_X3_readInto (d + 8) 0 0 [.ref z, .ref bk] h tg (fun v H tg' => v = some (.int (k_ri g n q).2.1.2) ∧ tg' = tg ∧ k_TP H z tp tb (k_ri g n q).2.1.1 (k_ri g n q).2.1.2 n g ∧ k_BK H bk rw ad (k_ri g n q).1 (k_ri g n q).2.2 ∧ k_fr (z :: bk :: (List.range 14).map ad) h H) m_no := by
  have hM := mM_X3_readInto_ok
  refine m_Sp_of (by decide) (Nat.le_of_ble_eq_true rfl) ?_
  obtain ⟨h1, h2, h3, h4⟩ := id hT
  have hF := k_fr_r (z :: bk :: (List.range 14).map ad) h
  refine m_J_run hM 2 rfl ⟨trivial, trivial, trivial⟩ ?_
  refine m_J_putf hM rfl rfl (h1) (rfl) ?_
  replace hT := k_TP_z (p' := 0) (wr' := R.2) hT
  replace hB := k_BK_z (c := k_rd tp 0 R.2) hB h1 (by decide) (by decide)
  replace hF := k_fr_s (k := z) (c := k_rd tp 0 R.2) hF (by simp)
  show m_J _ _ _ _ _ _ _ _ _ _ _ _ (_, _, _, h.set z (k_rd tp 0 R.2))
  generalize h.set z (k_rd tp 0 R.2) = H at hT hB hF ⊢
  clear h1 h2 h3
  refine m_J_run hM 2 rfl ⟨trivial, trivial, trivial⟩ ?_
  refine m_J_putf hM rfl rfl (hT.1) (rfl) ?_
  replace hB := k_BK_z (c := k_rd tp 0 (-nI 1)) hB hT.1 (by decide) (by decide)
  replace hT := k_TP_z (p' := 0) (wr' := -nI 1) hT
  replace hF := k_fr_s (k := z) (c := k_rd tp 0 (-nI 1)) hF (by simp)
  show m_J _ _ _ _ _ _ _ _ _ _ _ _ (_, _, _, H.set z (k_rd tp 0 (-nI 1)))
  generalize H.set z (k_rd tp 0 (-nI 1)) = H at hT hB hF ⊢
  refine m_J_run hM 2 rfl ⟨trivial, trivial, trivial⟩ ?_
  refine m_J_putf hM rfl rfl (hB.1) (rfl) ?_
  replace hT := k_TP_o (c := .inr (0, [.ref rw, .int (nI 0)])) hT hB.1 (by decide) (by decide)
  replace hF := k_fr_s (k := bk) (c := .inr (0, [.ref rw, .int (nI 0)])) hF (by simp)
  replace hB := k_BK_n (n' := 0) hB (by omega)
  show m_J _ _ _ _ _ _ _ _ _ _ _ _ (_, _, _, H.set bk (.inr (0, [.ref rw, .int (nI 0)])))
  generalize H.set bk (.inr (0, [.ref rw, .int (nI 0)])) = H at hT hB hF ⊢
  refine m_J_run hM 1 rfl ⟨trivial, trivial⟩ ?_
  refine m_callV (as := []) (rest := []) (m_EX_warm E N xs) hM rfl kw_X3_27 rfl rfl (hT.1) ⟨_, rfl, rfl⟩ (t_sb (by omega) hT) rfl (Nat.le_of_ble_eq_true rfl) (Nat.le_of_ble_eq_true rfl) (Nat.le_of_ble_eq_true rfl) (fun ht => ⟨ht, by simp⟩) ?_
  replace hB := k_BK_z (c := k_rd tp (k_sb g n 0) (-nI 1)) hB hT.1 (by decide) (by decide)
  replace hT := k_TP_z (p' := k_sb g n 0) (wr' := -nI 1) hT
  replace hF := k_fr_s (k := z) (c := k_rd tp (k_sb g n 0) (-nI 1)) hF (by simp)
  generalize H.set z (k_rd tp (k_sb g n 0) (-nI 1)) = H at hT hB hF ⊢
  have hp := (k_sb_le (g := g) (n := n) (p := 0) (by omega)).2
  refine m_J_run hM 1 rfl ⟨trivial, trivial⟩ ?_
  refine m_J_getf hM rfl rfl (hT.1) (rfl) ?_
  refine m_J_run hM 1 rfl ⟨trivial, trivial⟩ ?_
  refine m_J_getf hM rfl rfl (hT.1) (rfl) ?_
  refine m_callV (as := [.int (nI (k_sb g n 0))]) (rest := []) (m_EX_warm E N xs) hM rfl kw_X3_30 rfl rfl (hT.2.1) ⟨_, rfl, rfl⟩ (t_at (by omega) hT.2.1 hT.2.2.1 hT.2.2.2) rfl (Nat.le_of_ble_eq_true rfl) (Nat.le_of_ble_eq_true rfl) (Nat.le_of_ble_eq_true rfl) (fun ht => ⟨ht, by simp⟩) ?_
  have hr0 : k_ri0 g n q = k_ril g n 14 0 (k_sb g n 0, -nI 1) q (decide (k_at g n (k_sb g n 0) ≠ -nI 1)) := rfl
  obtain ⟨b0, hb0⟩ : ∃ b, b = decide (k_at g n (k_sb g n 0) ≠ -nI 1) := ⟨_, rfl⟩
  rw [← hb0] at hr0
  refine m_J_join (S2 := (39, [some (.ref z), some (.ref bk), none], [.int (k_z b0)], H)) ?_ ?_
  · intro hJ
    refine m_J_run hM 2 rfl ⟨trivial, trivial, trivial⟩ ?_
    refine m_J_if (fun hc => ?_) (fun hc => ?_)
    · have e : b0 = false := by rw [hb0]; simp [hc]
      rw [e] at hJ
      refine m_J_run hM 1 rfl ⟨trivial, trivial⟩ ?_
      exact hJ
    · have e : b0 = true := by rw [hb0]; simpa using hc
      rw [e] at hJ
      refine m_J_run hM 2 rfl ⟨trivial, trivial, trivial⟩ ?_
      exact hJ
  clear hb0
  have loop : ∀ (f i : Nat) (H : mH) (R : kR) (Q : Nat → kL) (b : Bool), i + f = 14 → k_ri0 g n q = k_ril g n f i R Q b → R.1 ≤ n → k_TP H z tp tb R.1 R.2 n g → k_BK H bk rw ad i Q → k_fr (z :: bk :: (List.range 14).map ad) h H → m_J l (m_EX E N xs) E mM_X3_readInto (d + 8) 0 0 (fun v H tg' => v = some (.int (k_ri g n q).2.1.2) ∧ tg' = tg ∧ k_TP H z tp tb (k_ri g n q).2.1.1 (k_ri g n q).2.1.2 n g ∧ k_BK H bk rw ad (k_ri g n q).1 (k_ri g n q).2.2 ∧ k_fr (z :: bk :: (List.range 14).map ad) h H) m_no tg 0 0 (40, [some (.ref z), some (.ref bk), some (.int (k_z b))], [], H) := by
    intro f
    induction f with
    | zero =>
      intro i H R Q b hi hr hp hT hB hF
      rw [k_ril] at hr
      have hn := hT.2.2.2
      cases b with
      | false =>
        refine m_J_run hM 2 rfl ⟨trivial, trivial, trivial⟩ ?_
        refine m_J_if (fun _ => ?_) (fun hc => absurd (rfl) hc)
        refine m_J_run hM 2 rfl ⟨trivial, trivial, trivial⟩ ?_
        refine m_J_if (fun _ => ?_) (fun hc => absurd (rfl) hc)
        refine m_J_run hM 1 rfl ⟨trivial, trivial⟩ ?_
        refine m_J_getf hM rfl rfl (hT.1) (rfl) ?_
        refine m_J_iret hM rfl rfl rfl (Nat.le_refl _) (Nat.le_refl _) ⟨?_, rfl, ?_, ?_, hF⟩
        · unfold k_ri; rw [hr]; rfl
        · unfold k_ri; rw [hr]; exact hT
        · unfold k_ri; rw [hr]; exact hB
      | true =>
        refine m_J_run hM 2 rfl ⟨trivial, trivial, trivial⟩ ?_
        refine m_J_if (fun hc => absurd hc (by decide)) (fun _ => ?_)
        refine m_J_run hM 1 rfl ⟨trivial, trivial⟩ ?_
        refine m_J_getf hM rfl rfl (hB.1) (rfl) ?_
        refine m_J_run hM 2 rfl ⟨trivial, trivial, trivial⟩ ?_
        refine m_J_if (fun _ => ?_) (fun hc => absurd (nI_le (by omega) (by omega)) hc)
        refine m_J_run hM 2 rfl ⟨trivial, trivial, trivial⟩ ?_
        refine m_J_if (fun hc => absurd hc (by decide)) (fun _ => ?_)
        refine m_J_run hM 1 rfl ⟨trivial, trivial⟩ ?_
        refine m_callV (as := []) (rest := []) (m_EX_warm E N xs) hM rfl kw_X3_27 rfl rfl (hT.1) ⟨_, rfl, rfl⟩ (t_sb hp hT) rfl (Nat.le_of_ble_eq_true rfl) (Nat.le_of_ble_eq_true rfl) (Nat.le_of_ble_eq_true rfl) (fun ht => ⟨ht, by simp⟩) ?_
        replace hB := k_BK_z (c := k_rd tp (k_sb g n R.1) R.2) hB hT.1 (by decide) (by decide)
        replace hT := k_TP_z (p' := k_sb g n R.1) (wr' := R.2) hT
        replace hF := k_fr_s (k := z) (c := k_rd tp (k_sb g n R.1) R.2) hF (by simp)
        generalize H.set z (k_rd tp (k_sb g n R.1) R.2) = H at hT hB hF ⊢
        refine m_J_run hM 1 rfl ⟨trivial, trivial⟩ ?_
        refine m_callV (as := []) (rest := []) (m_EX_warm E N xs) hM rfl kw_X3_48 rfl rfl (hT.1) ⟨_, rfl, rfl⟩ (t_ref hT) rfl (Nat.le_of_ble_eq_true rfl) (Nat.le_of_ble_eq_true rfl) (Nat.le_of_ble_eq_true rfl) (fun ht => ⟨ht, by simp⟩) ?_
        replace hB := k_BK_z (c := k_rd tp (k_sb g n R.1) (k_rf R.2 (k_sb g n R.1))) hB hT.1 (by decide) (by decide)
        replace hT := k_TP_z (p' := k_sb g n R.1) (wr' := k_rf R.2 (k_sb g n R.1)) hT
        replace hF := k_fr_s (k := z) (c := k_rd tp (k_sb g n R.1) (k_rf R.2 (k_sb g n R.1))) hF (by simp)
        generalize H.set z (k_rd tp (k_sb g n R.1) (k_rf R.2 (k_sb g n R.1))) = H at hT hB hF ⊢
        refine m_J_run hM 1 rfl ⟨trivial, trivial⟩ ?_
        refine m_J_getf hM rfl rfl (hT.1) (rfl) ?_
        refine m_J_iret hM rfl rfl rfl (Nat.le_refl _) (Nat.le_refl _) ⟨?_, rfl, ?_, ?_, hF⟩
        · unfold k_ri; rw [hr]; rfl
        · unfold k_ri; rw [hr]; exact hT
        · unfold k_ri; rw [hr]; exact hB
    | succ f ih =>
      intro i H R Q b hi hr hp hT hB hF
      rw [k_ril] at hr
      have hn := hT.2.2.2
      cases b with
      | false =>
        rw [if_neg (by decide)] at hr
        refine m_J_run hM 2 rfl ⟨trivial, trivial, trivial⟩ ?_
        refine m_J_if (fun _ => ?_) (fun hc => absurd (rfl) hc)
        refine m_J_run hM 2 rfl ⟨trivial, trivial, trivial⟩ ?_
        refine m_J_if (fun _ => ?_) (fun hc => absurd (rfl) hc)
        refine m_J_run hM 1 rfl ⟨trivial, trivial⟩ ?_
        refine m_J_getf hM rfl rfl (hT.1) (rfl) ?_
        refine m_J_iret hM rfl rfl rfl (Nat.le_refl _) (Nat.le_refl _) ⟨?_, rfl, ?_, ?_, hF⟩
        · unfold k_ri; rw [hr]; rfl
        · unfold k_ri; rw [hr]; exact hT
        · unfold k_ri; rw [hr]; exact hB
      | true =>
        rw [if_pos rfl] at hr
        refine m_J_run hM 2 rfl ⟨trivial, trivial, trivial⟩ ?_
        refine m_J_if (fun hc => absurd hc (by decide)) (fun _ => ?_)
        refine m_J_run hM 1 rfl ⟨trivial, trivial⟩ ?_
        refine m_J_getf hM rfl rfl (hB.1) (rfl) ?_
        refine m_J_run hM 2 rfl ⟨trivial, trivial, trivial⟩ ?_
        refine m_J_if (fun hc => absurd hc (nI_ge (by omega) (by omega))) (fun _ => ?_)
        refine m_J_run hM 2 rfl ⟨trivial, trivial, trivial⟩ ?_
        refine m_J_getf hM rfl rfl (hB.1) (rfl) ?_
        refine m_J_run hM 1 rfl ⟨trivial, trivial⟩ ?_
        refine m_J_getf hM rfl rfl (hB.1) (rfl) ?_
        refine m_aaldN hM rfl (hB.2.1) rfl (if_pos (show i < 14 by omega)) (by omega) (by omega) ?_
        have hi14 : i < 14 := by omega
        refine m_J_callV (as := [.ref (ad i)]) (rest := []) (m_EX_warm E N xs) hM rfl kw_X3_40 rfl rfl rfl hT.1 ⟨_, rfl, rfl⟩ (Nat.le_of_ble_eq_true rfl) (Nat.le_of_ble_eq_true rfl) (Nat.le_of_ble_eq_true rfl) (t_line (R := R) ⟨hT, hB.2.2.1 i hi14, hp, hB.2.2.2.2 i hi14⟩) (fun v' h' tg' hpp => ?_) (fun nm h' hp => hp.elim)
        obtain ⟨rfl, rfl, hp1, hp2⟩ := hpp
        refine ⟨fun ht => ⟨ht, by rw [hp2.1]; exact Nat.le_refl _⟩, ?_⟩
        replace hF := k_fr_t hF (k_fr_w hp2 (B := z :: bk :: (List.range 14).map ad) (by intro k hk; simp only [List.mem_cons, List.not_mem_nil, or_false] at hk; simp only [List.mem_cons, List.mem_map, List.mem_range]; exact hk.elim Or.inl (fun e => Or.inr (Or.inr ⟨i, hi14, e.symm⟩))))
        replace hB := k_BK_fr hB hin hi14 hT.1 hp2 hp1.2.1 hp1.2.2.2
        have hp3 := hp1.2.2.1
        replace hT := hp1.1
        clear hp1 hp2
        generalize hX : k_rline g n (Q i) R = X at *
        refine m_J_run hM 2 rfl ⟨trivial, trivial, trivial⟩ ?_
        refine m_J_getf hM rfl rfl (hB.1) (rfl) ?_
        refine m_J_run hM 2 rfl ⟨trivial, trivial, trivial⟩ ?_
        refine m_J_putf hM rfl rfl (hB.1) (rfl) ?_
        replace hT := k_TP_o (c := .inr (0, [.ref rw, .int (nI (i + 1))])) hT hB.1 (by decide) (by decide)
        replace hF := k_fr_s (k := bk) (c := .inr (0, [.ref rw, .int (nI (i + 1))])) hF (by simp)
        replace hB := k_BK_n (n' := i + 1) hB (by omega)
        refine m_J_eqH (H' := h'.set bk (.inr (0, [.ref rw, .int (nI (i + 1))]))) (by rw [k_succ i]; rfl) ?_
        generalize h'.set bk (.inr (0, [.ref rw, .int (nI (i + 1))])) = H at hT hB hF ⊢
        refine m_J_run hM 1 rfl ⟨trivial, trivial⟩ ?_
        refine m_callV (as := []) (rest := []) (m_EX_warm E N xs) hM rfl kw_X3_44 rfl rfl (hT.1) ⟨_, rfl, rfl⟩ (t_semi (R := X.2) hp3 hT) rfl (Nat.le_of_ble_eq_true rfl) (Nat.le_of_ble_eq_true rfl) (Nat.le_of_ble_eq_true rfl) (fun ht => ⟨ht, by simp⟩) ?_
        replace hB := k_BK_z (c := k_rd tp (k_rs g n X.2).2.1 (k_rs g n X.2).2.2) hB hT.1 (by decide) (by decide)
        replace hT := k_TP_z (p' := (k_rs g n X.2).2.1) (wr' := (k_rs g n X.2).2.2) hT
        replace hF := k_fr_s (k := z) (c := k_rd tp (k_rs g n X.2).2.1 (k_rs g n X.2).2.2) hF (by simp)
        generalize H.set z (k_rd tp (k_rs g n X.2).2.1 (k_rs g n X.2).2.2) = H at hT hB hF ⊢
        refine m_J_run hM 2 rfl ⟨trivial, trivial, trivial⟩ ?_
        exact ih (i + 1) H _ _ _ (by omega) hr (k_rs_le hp3) hT hB hF
  refine m_J_run hM 1 rfl ⟨trivial, trivial⟩ ?_
  exact loop 14 0 H (k_sb g n 0, -nI 1) q b0 rfl hr0 hp hT hB hF
end
end
section
/-! TAPE: four bytes of a number -/
/-- byte j of x, as it lies on the tape -/
def k_by (x : Int32) (j : Nat) : Int32 := vp_nar .byte (x >>> (nI (24 - 8 * j) &&& 31)).toInt8.toInt32
def k_ap (g : Nat → Int32) (n : Nat) (x : Int32) : Nat → (Nat → Int32)
  | 0 => g
  | j + 1 => upd (k_ap g n x j) (n + j) (k_by x j)
section
variable {l : Launch} {E : mE} {N : Nat} {xs : Nat → Int32} {d : Nat} {tg : Bool} {h : mH} {tp tb n : Nat} {g : Nat → Int32} {x : Int32}
theorem t_append (h2 : h[tp]? = some (k_tp tb n)) (h3 : h[tb]? = some (k_ba 400 g)) (hn : n ≤ 396) : m_Dt l (m_EX E N xs) E mM_X6_append d 0 0 [.ref tp, .int x] h tg none ((h.set tb (k_ba 400 (k_ap g n x 4))).set tp (k_tp tb (n + 4))) tg := by
  have hM := mM_X6_append_ok
  refine m_Sp_of (by decide) (Nat.le_of_ble_eq_true rfl) ?_
  refine m_J_run hM 2 rfl ⟨trivial, trivial, trivial⟩ ?_
  have hne : tp ≠ tb := k_ne h2 h3
  have one : ∀ (j : Nat) (H : mH), j < 4 → H[tp]? = some (k_tp tb (n + j)) → H[tb]? = some (k_ba 400 (k_ap g n x j)) → m_J l (m_EX E N xs) E mM_X6_append d 0 0 (m_K none ((h.set tb (k_ba 400 (k_ap g n x 4))).set tp (k_tp tb (n + 4))) tg) m_no tg 0 0 (3, [some (.ref tp), some (.int x), some (.int (nI (24 - 8 * j) + -nI 8))], [], (H.set tb (k_ba 400 (k_ap g n x (j + 1)))).set tp (k_tp tb (n + (j + 1)))) → m_J l (m_EX E N xs) E mM_X6_append d 0 0 (m_K none ((h.set tb (k_ba 400 (k_ap g n x 4))).set tp (k_tp tb (n + 4))) tg) m_no tg 0 0 (3, [some (.ref tp), some (.int x), some (.int (nI (24 - 8 * j)))], [], H) := by
    intro j H hj h2 h3 hJ
    refine m_J_run hM 2 rfl ⟨trivial, trivial, trivial⟩ ?_
    refine m_J_if (fun hc => absurd hc (nI_pos (by omega))) (fun _ => ?_)
    refine m_J_run hM 1 rfl ⟨trivial, trivial⟩ ?_
    refine m_J_getf hM rfl rfl (h2) (rfl) ?_
    refine m_J_run hM 2 rfl ⟨trivial, trivial, trivial⟩ ?_
    refine m_J_if (fun hc => absurd hc (nI_ge (by omega) (by omega))) (fun _ => ?_)
    refine m_J_run hM 1 rfl ⟨trivial, trivial⟩ ?_
    refine m_J_getf hM rfl rfl (h2) (rfl) ?_
    refine m_J_run hM 1 rfl ⟨trivial, trivial⟩ ?_
    refine m_J_getf hM rfl rfl (h2) (rfl) ?_
    refine m_J_run hM 4 rfl ⟨trivial, trivial, trivial, trivial, trivial⟩ ?_
    refine m_bastN hM rfl (h3) (by omega) (by omega) ?_
    refine m_J_run hM 2 rfl ⟨trivial, trivial, trivial⟩ ?_
    refine m_J_getf hM rfl rfl (k_sn hne h2) (rfl) ?_
    refine m_J_run hM 2 rfl ⟨trivial, trivial, trivial⟩ ?_
    refine m_J_putf hM rfl rfl (k_sn hne h2) (rfl) ?_
    refine m_J_run hM 2 rfl ⟨trivial, trivial, trivial⟩ ?_
    refine m_J_eqH ?_ hJ
    show _ = (H.set tb _).set tp (Sum.inr (5, [Value.ref tb, Value.int (nI (n + j + 1))]))
    rw [k_succ (n + j)]
    rfl
  have col : ∀ (a b c e : va_E), (((h.set tb a).set tp b).set tb c).set tp e = (h.set tb c).set tp e := by
    intro a b c e
    rw [List.set_comm _ _ hne, k_s2, k_s2]
  refine one 0 h (by omega) h2 h3 ?_
  rw [show nI (24 - 8 * 0) + -nI 8 = nI (24 - 8 * 1) by decide]
  refine one 1 _ (by omega) (k_ss (k_sn hne h2)) (k_sn (Ne.symm hne) (k_ss h3)) ?_
  rw [show nI (24 - 8 * 1) + -nI 8 = nI (24 - 8 * 2) by decide, col]
  refine one 2 _ (by omega) (k_ss (k_sn hne h2)) (k_sn (Ne.symm hne) (k_ss h3)) ?_
  rw [show nI (24 - 8 * 2) + -nI 8 = nI (24 - 8 * 3) by decide, col]
  refine one 3 _ (by omega) (k_ss (k_sn hne h2)) (k_sn (Ne.symm hne) (k_ss h3)) ?_
  rw [show nI (24 - 8 * 3) + -nI 8 = -nI 8 by decide, col]
  refine m_J_run hM 2 rfl ⟨trivial, trivial, trivial⟩ ?_
  refine m_J_if (fun _ => ?_) (fun hc => absurd (by decide) hc)
  exact m_vret hM rfl rfl (Nat.le_of_ble_eq_true rfl) (Nat.le_of_ble_eq_true rfl) (rfl)
end
end
section
/-! NEW ARRAYS OF REFERENCES -/
theorem m_R_app {E : mE} {h : mH} {H H1 : Heap} {x : List va_E} (hR : m_R E true h H) (hlen : h.length + x.length ≤ 1000000) (hz : H1.size = H.size + x.length) (ho : ∀ q, q < H.size → H1[q]? = H[q]?) (hx : ∀ (j : Nat) (c : va_E), x[j]? = some c → va_at E.2.2.1 m_cl (H.size + j, m_c E c) H1) : m_R E true (h ++ x) H1 := by
  have e0 : H.size = E.1 + h.length := Nat.le_antisymm (hR.2.2.1 rfl) hR.2.1
  refine ⟨fun k q hq => ?_, by rw [List.length_append]; omega, fun _ => by rw [List.length_append]; omega, fun q hq => ?_, by rw [List.length_append]; exact hlen, hR.2.2.2.2.2⟩
  · have hk : k < h.length + x.length := by
      have := (List.getElem?_eq_some_iff.mp hq).1
      simpa [m_W] using this
    simp only [m_W, List.getElem?_mapIdx] at hq
    by_cases hkl : k < h.length
    · rw [List.getElem?_append_left hkl] at hq
      have hg : (m_W E h)[k]? = some q := by simp only [m_W, List.getElem?_mapIdx]; exact hq
      have h9 := hR.1 k q hg
      exact h9.kept (ho _ h9.lt)
    · rw [List.getElem?_append_right (by omega)] at hq
      cases hc : x[k - h.length]? with
      | none => rw [hc] at hq; cases hq
      | some c =>
        rw [hc] at hq
        simp only [Option.map_some, Option.some.injEq] at hq
        subst hq
        have ea : m_ad E k = H.size + (k - h.length) := by simp [m_ad, show k < 1000000 by omega, e0]; omega
        rw [ea]
        exact hx _ _ hc
  · rw [ho q (by omega)]; exact hR.2.2.2.1 q hq
section
variable {l : Launch} {E : mE} {N : Nat} {xs : Nat → Int32} {M : mM} {d mc ms : Nat} {PR : Option Value → mH → Bool → Prop} {PX : String → mH → Prop} {kc ks : Nat} {pc t : Nat} {L : List (Option Value)} {h : mH} {st : List Value} {i : Nat}
abbrev k_ra0 (ti K : Nat) : va_E := .inl (ti, K, .inr (.inr (.inr (.inr (fun _ => none)))))
theorem m_J_anew {ti K : Nat} {C : String} {n : Int32} (hM : m_okM M = true) (hf : (m_tb M).lookup pc = some (.anewarray i, t)) (hw : m_in (.classLink M.1.cls i C) = true) (hti : m_ty[ti]? = some (.object C)) (hex : FieldType.object C ∈ ([.object "LandUses$Line", .object "LandUses$Uses", .array .long] : List FieldType)) (hn : ¬ n < 0) (hN : n.toNatClampNeg = K) (hbytes : K * 4 ≤ 536870912) (hlen : h.length < 1000000) (hc : kc + 1 ≤ mc) (hs : ks + K ≤ ms)
    (hJ : m_J l (m_EX E N xs) E M d mc ms PR PX true (kc + 1) (ks + K) (pc + 3, L, .ref h.length :: st, h ++ [k_ra0 ti K])) : m_J l (m_EX E N xs) E M d mc ms PR PX true kc ks (pc, L, .int n :: st, h) := by
  obtain ⟨n9, hd1, hn1, -, -⟩ := m_dec hM hf
  have hd : decode M.2.1 pc = .ok (.anewarray i, 3) := by rw [hd1, hn1 rfl]; rfl
  subst hN
  intro p e s m args below meth c H locs ls hX hR hz1 hz2 hlo hL
  have e0 : H.size = E.1 + h.length := Nat.le_antisymm (hR.2.2.1 rfl) hR.2.1
  have hover : va_AO C s := hX.2.2.2.2.2.2.2.2.2.2.1.2.2.2.1 _ hex
  refine W.anew hX.1 hX.2.1 hX.2.2.2.2.1 (hX.2.2.2.2.2.1 _ (m_in_mem hw)) (va_AO.use hover) rfl hd rfl hn hbytes hc hs fun cA kA comp f1 f2 f3 f4 => ?_
  generalize hH1 : H.push ({ cls := cA, slots := Array.replicate n.toNatClampNeg .null, vm := .none } : Cell) = H1
  have z1 : H1.size = H.size + 1 := by rw [← hH1, Array.size_push]
  have e1 : H1[H.size]? = some (arrV cA n.toNatClampNeg (fun _ => .null)) := by rw [← hH1, Array.getElem?_push_size, ← arrV_new]
  have o1 : ∀ q : Nat, q < H.size → H1[q]? = H[q]? := fun q hq => by rw [← hH1, Array.getElem?_push, if_neg (Nat.ne_of_lt hq)]
  have ea : m_ad E h.length = H.size := by simp [m_ad, hlen, e0]
  have hRA : va_RA s (E.2.2.2.1 ti) (.object C) := (hX.2.2.2.2.2.2.1.2 ti _ (m_tys_get E hti)).2
  obtain ⟨kA9, comp9, g1, g2, g3, g4⟩ := hRA
  have hcA : E.2.2.2.1 ti = cA := Option.some.inj (g4.symm.trans f1)
  have hx : va_at E.2.2.1 m_cl (H.size, m_c E (k_ra0 ti n.toNatClampNeg)) H1 := by
    show H1[H.size]? = some (vp_cell _ _)
    rw [hcA, vp_cell_q]
    exact e1
  have hz9 : s.heap.size + kc ≤ E.1 + h.length := hz2 rfl
  have hw9 : W p l e (m_rm d mc ms) s m args below meth c H1 locs (kc + 1) (ks + n.toNatClampNeg) (vx_MQ below (m_Qc E PR) (m_XC E PX) args s mc ms (fun q => E.1 ≤ q)) (F0 m (pc + 3) ls (.ref (m_ad E h.length) :: st.map (m_v E))) := hJ p e s m args below meth c H1 locs ls hX (m_R_push hR hlen z1 o1 hx) (by rw [z1]; omega) (fun _ => by rw [List.length_append]; simp; omega) hlo hL
  rw [ea] at hw9
  exact hw9
/-- six rows of longs -/
theorem m_J_mna {K1 K2 : Nat} {n k : Int32} (hM : m_okM M = true) (hf : (m_tb M).lookup pc = some (.multianewarray i 2, t)) (hw : m_in (.classLink M.1.cls i ("[" ++ (FieldType.array .long).toString)) = true) (hwa : m_in (.arrayClass .long) = true) (hn : ¬ n < 0) (hk : ¬ k < 0) (hN : n.toNatClampNeg = K1) (hK : k.toNatClampNeg = K2) (hb1 : K1 * 4 ≤ 536870912) (hb2 : K2 * 8 ≤ 536870912) (hlen : h.length + (K1 + 1) ≤ 1000000) (hc : kc + (1 + K1) ≤ mc) (hs : ks + (K1 + K1 * K2) ≤ ms)
    (hJ : m_J l (m_EX E N xs) E M d mc ms PR PX true (kc + 1 + K1) (ks + K1 + K1 * K2) (pc + 4, L, .ref h.length :: st, h ++ (.inl (6, K1, .inr (.inr (.inr (.inr (fun j => if j < K1 then some (h.length + 1 + j) else none))))) :: List.replicate K1 (.inl (1, K2, .inr (.inl (fun _ => 0))))))) : m_J l (m_EX E N xs) E M d mc ms PR PX true kc ks (pc, L, .int k :: .int n :: st, h) := by
  obtain ⟨n9, hd1, hn1, -, -⟩ := m_dec hM hf
  have hd : decode M.2.1 pc = .ok (.multianewarray i 2, 4) := by rw [hd1, hn1 rfl]; rfl
  subst hN
  subst hK
  intro p e s m args below meth c H locs ls hX hR hz1 hz2 hlo hL
  have e0 : H.size = E.1 + h.length := Nat.le_antisymm (hR.2.2.1 rfl) hR.2.1
  have hover : va_AOA .long s := hX.2.2.2.2.2.2.2.2.2.2.1.2.2.2.1 _ (by simp)
  intro T hT Xs
  obtain ⟨vm₁, cA, comp, -, fA, fC, hO, -, X', step⟩ := Xs.multianewarray2F hX.1 hX.2.2.2.2.1 (hX.2.2.2.2.2.1 _ (m_in_mem hw)) (va_AOA.use hover) (hX.2.2.2.2.2.1 _ (m_in_mem hwa)) (g := F0 m pc ls (.int k :: .int n :: st.map (m_v E))) rfl (by rw [hX.2.1]; exact hd) rfl hn hk hb1 hb2 (by omega) rfl rfl hc hs
  have hA6 : E.2.2.2.1 6 = cA := Option.some.inj (((hX.2.2.2.2.2.2.1.2 6 _ (m_tys_get E rfl)).2).symm.trans fA)
  have hA1 : E.2.2.2.1 1 = comp := Option.some.inj (((hX.2.2.2.2.2.2.1.2 1 _ (m_tys_get E rfl)).2).symm.trans fC)
  generalize hF : Jvm.Free.Multi.fill (T.setVm vm₁) cA comp n.toNatClampNeg k.toNatClampNeg (defaultValue .long) n.toNatClampNeg = F at X' step
  have hTh : (T.setVm vm₁).heap = H := hT
  obtain ⟨f1, f2, -, -⟩ := Jvm.Free.Multi.fill_facts (T.setVm vm₁) cA comp n.toNatClampNeg k.toNatClampNeg (defaultValue .long) n.toNatClampNeg
  rw [hF, hTh] at f1 f2
  have hold : ∀ x : Nat, x < H.size → F.heap[x]? = H[x]? := fun x hx => by
    have := Jvm.Free.Multi.fill_old (T.setVm vm₁) cA comp n.toNatClampNeg k.toNatClampNeg (defaultValue .long) (a := x) (by rw [hTh]; exact hx) n.toNatClampNeg
    rw [hF, hTh] at this
    exact this
  have hrow : ∀ j : Nat, j < n.toNatClampNeg → F.heap[H.size + 1 + j]? = some (vp_cell comp (k.toNatClampNeg, .inr (.inl (fun _ => 0)))) := fun j hj => by
    have := Jvm.Free.Multi.fill_inner (T.setVm vm₁) cA comp n.toNatClampNeg k.toNatClampNeg (defaultValue .long) n.toNatClampNeg j hj
    rw [hF, hTh] at this
    rw [this]
    refine congrArg some ?_
    show ({ cls := comp, slots := Array.replicate k.toNatClampNeg (defaultValue .long), vm := .none } : Cell) = _
    rw [arrV_new]
    rfl
  have hout : Jvm.Free.Multi.outerC cA n.toNatClampNeg H.size n.toNatClampNeg = vp_cell cA (n.toNatClampNeg, .inr (.inr (.inr (.inr (fun i => if i < n.toNatClampNeg then some (H.size + 1 + i) else none))))) := by
    rw [vp_cell_q]
    exact vr_outer cA n.toNatClampNeg H.size n.toNatClampNeg
  rw [hout] at f2
  have ea : m_ad E h.length = H.size := by simp [m_ad, show h.length < 1000000 by omega, e0]
  have hz9 : s.heap.size + kc ≤ E.1 + h.length := hz2 rfl
  have hR1 : m_R E true (h ++ (.inl (6, n.toNatClampNeg, .inr (.inr (.inr (.inr (fun j => if j < n.toNatClampNeg then some (h.length + 1 + j) else none))))) :: List.replicate n.toNatClampNeg (.inl (1, k.toNatClampNeg, .inr (.inl (fun _ => 0)))))) F.heap := by
    refine m_R_app hR (by simp; omega) (by rw [f1]; simp; omega) hold (fun j c hj => ?_)
    cases j with
    | zero =>
      simp only [List.getElem?_cons_zero, Option.some.injEq] at hj
      subst hj
      show F.heap[H.size + 0]? = some (vp_cell _ _)
      rw [Nat.add_zero, hA6, f2]
      refine congrArg some (congrArg (vp_cell cA) ?_)
      refine congrArg (fun g => (n.toNatClampNeg, Sum.inr (Sum.inr (Sum.inr (Sum.inr g))))) (funext fun j => ?_)
      by_cases hj : j < n.toNatClampNeg
      · simp only [hj, if_true, Option.map_some]
        rw [m_ad, if_pos (by omega)]
        congr 1
        omega
      · simp [hj]
    | succ j =>
      rw [List.getElem?_cons_succ, List.getElem?_replicate] at hj
      split at hj
      · rename_i hj2
        simp only [Option.some.injEq] at hj
        subst hj
        show F.heap[H.size + (j + 1)]? = some (vp_cell _ _)
        rw [hA1, show H.size + (j + 1) = H.size + 1 + j by omega]
        exact hrow j hj2
      · cases hj
  have hw9 := hJ p e s m args below meth c F.heap locs ls hX hR1 (by rw [f1]; omega) (fun _ => by rw [List.length_append]; simp; omega) hlo hL F rfl
  obtain ⟨t9, a1, b1⟩ := hw9 X'
  refine ⟨t9, step t9 ?_, b1⟩
  have e : T.heap.size = H.size := by rw [hT]
  rw [e, ← ea]
  exact a1
end
end
section
/-! CONSTRUCTORS -/
theorem kc_int : m_in (.arrayClass .int) = true := by decide +kernel
theorem kc_long : m_in (.arrayClass .long) = true := by decide +kernel
theorem kc_byte : m_in (.arrayClass .byte) = true := by decide +kernel
theorem kc_bool : m_in (.arrayClass .boolean) = true := by decide +kernel
theorem kl_X0_9 : m_in (.classLink RX0 9 "LandUses$Line") = true := by decide +kernel
theorem kl_X8_32 : m_in (.classLink RX8 32 "LandUses$Uses") = true := by decide +kernel
theorem kl_X1_22 : m_in (.classLink RX1 22 ("[" ++ (FieldType.array .long).toString)) = true := by decide +kernel
section
variable {l : Launch} {EX : State → Prop} {E : mE} {M : mM} {d mc ms : Nat} {PR : Option Value → mH → Bool → Prop} {PX : String → mH → Prop} {tg : Bool} {kc ks : Nat} {pc t : Nat} {L : List (Option Value)} {h : mH} {st : List Value}
theorem m_J_putc {c k n a i : Nat} {fs : List Value} {v : Value} {r : List Value} (hM : m_okM M = true) (hf : (m_tb M).lookup pc = some (.putfield i, t)) (hft : m_FT.lookup (M.2.2.2.2.2.1, i) = some (c, k, n)) (hh : h[a]? = some (.inr (c, fs))) (hok : (Nat.blt k fs.length && m_fit (m_tyf c k) v) = true) (hin : (decide (M.1.name = "<init>") && (n == 0) && (m_owns.getD M.2.2.2.2.2.1 "" == ((m_cl.getD c (RX0, TX0, 2)).2.1 k).1)) = true) (hJ : m_J l EX E M d mc ms PR PX tg kc ks (pc + 3, L, r, h.set a (.inr (c, fs.set k v)))) : m_J l EX E M d mc ms PR PX tg kc ks (pc, L, v :: .ref a :: r, h) := by
  refine m_J_step (CC := True) hM ?_ trivial hJ
  simp only [Bool.and_eq_true] at hok
  simp only [m_step, hf, m_ins, hft, hh, hok.1, hok.2, hin, beq_self_eq_true, Bool.and_true, Bool.true_and, Bool.or_true, cond_true]
theorem m_newI {K : Nat} (hM : m_okM M = true) (hf : (m_tb M).lookup pc = some (.newarray .int, t)) (hK : K < 100000) (hlen : h.length < 1000000) (hc : kc + 1 ≤ mc) (hs : ks + K ≤ ms) (hJ : m_J l EX E M d mc ms PR PX true (kc + 1) (ks + K) (pc + 2, L, .ref h.length :: st, h ++ [k_ia K (fun _ => nI 0)])) : m_J l EX E M d mc ms PR PX true kc ks (pc, L, .int (nI K) :: st, h) :=
  m_J_newa (ti := 0) (N := K) (a0 := (K, .inl (fun _ => nI 0))) hM hf kc_int rfl (fun _ => rfl) rfl (nI_pos (by omega)) (nI_clamp (by omega)) (by show K * 4 ≤ _; omega) (fun _ _ h => h) hlen hc hs hJ
theorem m_newL {K : Nat} (hM : m_okM M = true) (hf : (m_tb M).lookup pc = some (.newarray .long, t)) (hK : K < 100000) (hlen : h.length < 1000000) (hc : kc + 1 ≤ mc) (hs : ks + K ≤ ms) (hJ : m_J l EX E M d mc ms PR PX true (kc + 1) (ks + K) (pc + 2, L, .ref h.length :: st, h ++ [k_la K (fun _ => 0)])) : m_J l EX E M d mc ms PR PX true kc ks (pc, L, .int (nI K) :: st, h) :=
  m_J_newa (ti := 1) (N := K) (a0 := (K, .inr (.inl (fun _ => 0)))) hM hf kc_long rfl (fun _ => rfl) rfl (nI_pos (by omega)) (nI_clamp (by omega)) (by show K * 8 ≤ _; omega) (fun _ _ h => h) hlen hc hs hJ
theorem m_newB {K : Nat} (hM : m_okM M = true) (hf : (m_tb M).lookup pc = some (.newarray .byte, t)) (hK : K < 100000) (hlen : h.length < 1000000) (hc : kc + 1 ≤ mc) (hs : ks + K ≤ ms) (hJ : m_J l EX E M d mc ms PR PX true (kc + 1) (ks + K) (pc + 2, L, .ref h.length :: st, h ++ [k_ba K (fun _ => nI 0)])) : m_J l EX E M d mc ms PR PX true kc ks (pc, L, .int (nI K) :: st, h) :=
  m_J_newa (ti := 2) (N := K) (a0 := (K, .inl (fun _ => nI 0))) hM hf kc_byte rfl (fun _ => rfl) rfl (nI_pos (by omega)) (nI_clamp (by omega)) (by show K * 1 ≤ _; omega) (fun _ _ h => h) hlen hc hs hJ
theorem m_newZ {K : Nat} (hM : m_okM M = true) (hf : (m_tb M).lookup pc = some (.newarray .boolean, t)) (hK : K < 100000) (hlen : h.length < 1000000) (hc : kc + 1 ≤ mc) (hs : ks + K ≤ ms) (hJ : m_J l EX E M d mc ms PR PX true (kc + 1) (ks + K) (pc + 2, L, .ref h.length :: st, h ++ [k_za K (fun _ => nI 0)])) : m_J l EX E M d mc ms PR PX true kc ks (pc, L, .int (nI K) :: st, h) :=
  m_J_newa (ti := 3) (N := K) (a0 := (K, .inl (fun _ => nI 0))) hM hf kc_bool rfl (fun _ => rfl) rfl (nI_pos (by omega)) (nI_clamp (by omega)) (by show K * 1 ≤ _; omega) (fun _ _ h => h) hlen hc hs hJ
theorem m_newC {ci K i : Nat} {fs : List Value} (hM : m_okM M = true) (hf : (m_tb M).lookup pc = some (.new i, t)) (hw : m_nw M.1.cls i ci = true) (hN : (m_cl.getD ci (RX0, TX0, 2)).2.2 = K) (hfs : fs = (List.range K).map (fun k => defaultValue (m_tyf ci k))) (hnr : (List.range K).all (fun k => match defaultValue (m_tyf ci k) with
      | .ref _ => false
      | _ => true) = true) (hlen : h.length < 1000000) (hc : kc + 1 ≤ mc) (hs : ks + K ≤ ms)
    (hJ : m_J l EX E M d mc ms PR PX true (kc + 1) (ks + K) (pc + 3, L, .ref h.length :: st, h ++ [.inr (ci, fs)])) : m_J l EX E M d mc ms PR PX true kc ks (pc, L, st, h) := m_J_new hM hf hw hN hfs hnr hlen hc hs hJ
theorem m_aastN {ti n k b a ci : Nat} {f : Nat → Option Nat} {fs : List Value} {r : List Value} (hM : m_okM M = true) (hf : (m_tb M).lookup pc = some (.aastore, t)) (hh : h[a]? = some (.inl (ti, n, .inr (.inr (.inr (.inr f)))))) (hb : h[b]? = some (.inr (ci, fs))) (hti : (ti = 4 ∧ ci = 2) ∨ (ti = 5 ∧ ci = 6)) (hk : k < n) (hn : n < 100000) (hJ : m_J l EX E M d mc ms PR PX tg kc ks (pc + 1, L, r, h.set a (.inl (ti, n, .inr (.inr (.inr (.inr (va_up f k (some b))))))))) : m_J l EX E M d mc ms PR PX tg kc ks (pc, L, .ref b :: .int (nI k) :: .ref a :: r, h) := by
  refine m_J_step hM ?_ (vp_in_nI hk (by omega)) (S' := (pc + 1, L, r, h.set a (.inl (ti, n, .inr (.inr (.inr (.inr (va_up f k (some b)))))))) ) hJ
  rcases hti with ⟨rfl, rfl⟩ | ⟨rfl, rfl⟩ <;> simp [m_step, hf, m_ins, hh, hb, nI_clamp (show k < 2147483648 by omega)]
end
/-- the old cells stand, but z -/
def k_ex (z : Nat) (h H : mH) : Prop := h.length ≤ H.length ∧ ∀ k, k < h.length → k ≠ z → H[k]? = h[k]?
theorem k_ex_r (z : Nat) (h : mH) : k_ex z h h := ⟨Nat.le_refl _, fun _ _ _ => rfl⟩
theorem k_ex_a {z : Nat} {h H : mH} (x : List va_E) (hx : k_ex z h H) : k_ex z h (H ++ x) := ⟨by rw [List.length_append]; have := hx.1; omega, fun k hk hz => by rw [List.getElem?_append_left (Nat.lt_of_lt_of_le hk hx.1)]; exact hx.2 k hk hz⟩
theorem k_ex_s {z k : Nat} {h H : mH} {c : va_E} (hx : k_ex z h H) (hk : k = z ∨ h.length ≤ k) : k_ex z h (H.set k c) := ⟨by rw [List.length_set]; exact hx.1, fun j hj hz => by rw [List.getElem?_set_ne (by omega)]; exact hx.2 j hj hz⟩
/-- a call upon a new cell -/
theorem k_ex_c {z y : Nat} {h H K : mH} (hx : k_ex z h H) (h2 : k_ex y H K) (hy : y = z ∨ h.length ≤ y) : k_ex z h K := ⟨Nat.le_trans hx.1 h2.1, fun k hk hz => (h2.2 k (Nat.lt_of_lt_of_le hk hx.1) (by omega)).trans (hx.2 k hk hz)⟩
theorem k_ol {h : mH} {k : Nat} {c : va_E} (x : List va_E) (hk : h[k]? = some c) : (h ++ x)[k]? = some c := by rw [List.getElem?_append_left (List.getElem?_eq_some_iff.mp hk).1]; exact hk
theorem k_nw (h : mH) (c : va_E) : (h ++ [c])[h.length]? = some c := by simp
theorem k_oe {z k : Nat} {h H : mH} {c : va_E} (hx : k_ex z h H) (hk : h[k]? = some c) (hz : k ≠ z) : H[k]? = some c := by rw [hx.2 k (List.getElem?_eq_some_iff.mp hk).1 hz]; exact hk
theorem k_lt {h : mH} {k : Nat} {c : va_E} (hk : h[k]? = some c) : k < h.length := (List.getElem?_eq_some_iff.mp hk).1
def k_u0 : Nat → Int64 := vp_updL (fun _ => 0) 0 1152921504606846975
def k_q0 : kL := (0, 0, 0, 0, 0, 0, nI 0)
section
variable {l : Launch} {E : mE} {N : Nat} {xs : Nat → Int32} {d : Nat} {h : mH} {z : Nat}
theorem c_uses {v0 : Value} (hz : h[z]? = some (.inr (6, [v0]))) (hl : h.length < 900000) : m_Sp l (m_EX E N xs) E mM_X7_init d 1 5 [.ref z] h true (fun v H tg' => v = none ∧ tg' = true ∧ H.length = h.length + 1 ∧ k_ex z h H ∧ H[z]? = some (k_uses h.length) ∧ H[h.length]? = some (k_la 5 k_u0)) m_no := by
  have hM := mM_X7_init_ok
  refine m_Sp_of (by decide) (Nat.le_of_ble_eq_true rfl) ?_
  have hzl := k_lt hz
  refine m_J_run hM 1 rfl ⟨trivial, trivial⟩ ?_
  refine m_J_obj hM rfl kw_X7_3 (Nat.le_of_ble_eq_true rfl) ?_
  refine m_J_run hM 2 rfl ⟨trivial, trivial, trivial⟩ ?_
  refine m_newL (K := 5) hM rfl (by omega) (by omega) (Nat.le_refl _) (Nat.le_refl _) ?_
  refine m_J_putc hM rfl rfl (k_ol _ hz) (rfl) (by decide) ?_
  refine m_J_run hM 1 rfl ⟨trivial, trivial⟩ ?_
  refine m_J_getf hM rfl rfl (k_ss (k_ol _ hz)) (rfl) ?_
  refine m_J_run hM 2 rfl ⟨trivial, trivial, trivial⟩ ?_
  refine m_lastN hM rfl (k_sn (show h.length ≠ z by omega) (k_nw h _)) (by omega) (by omega) ?_
  refine m_J_vret hM rfl rfl (Nat.le_refl _) (Nat.le_refl _) ⟨rfl, rfl, by simp, k_ex_s (k_ex_s (k_ex_a _ (k_ex_r _ _)) (Or.inl rfl)) (Or.inr (Nat.le_refl _)), k_sn (by omega) (k_ss (k_ol _ hz)), k_ss (k_sn (show h.length ≠ z by omega) (k_nw h _))⟩
theorem c_tape {v0 v1 : Value} (hz : h[z]? = some (.inr (5, [v0, v1]))) (hl : h.length < 900000) : m_Sp l (m_EX E N xs) E mM_X6_init d 1 400 [.ref z] h true (fun v H tg' => v = none ∧ tg' = true ∧ H.length = h.length + 1 ∧ k_ex z h H ∧ H[z]? = some (k_tp h.length 0) ∧ H[h.length]? = some (k_ba 400 (fun _ => nI 0))) m_no := by
  have hM := mM_X6_init_ok
  refine m_Sp_of (by decide) (Nat.le_of_ble_eq_true rfl) ?_
  have hzl := k_lt hz
  refine m_J_run hM 1 rfl ⟨trivial, trivial⟩ ?_
  refine m_J_obj hM rfl kw_X6_3 (Nat.le_of_ble_eq_true rfl) ?_
  refine m_J_run hM 2 rfl ⟨trivial, trivial, trivial⟩ ?_
  refine m_newB (K := 400) hM rfl (by omega) (by omega) (Nat.le_refl _) (Nat.le_refl _) ?_
  refine m_J_putc hM rfl rfl (k_ol _ hz) (rfl) (by decide) ?_
  refine m_J_run hM 2 rfl ⟨trivial, trivial, trivial⟩ ?_
  refine m_J_putc hM rfl rfl (k_ss (k_ol _ hz)) (rfl) (by decide) ?_
  refine m_J_vret hM rfl rfl (Nat.le_refl _) (Nat.le_refl _) ⟨rfl, rfl, by simp, k_ex_s (k_ex_s (k_ex_a _ (k_ex_r _ _)) (Or.inl rfl)) (Or.inl rfl), k_ss (k_ss (k_ol _ hz)), k_sn (show h.length ≠ z by omega) (k_sn (show h.length ≠ z by omega) (k_nw h _))⟩
theorem c_reader {v0 v1 v2 : Value} {tp : Nat} (hz : h[z]? = some (.inr (3, [v0, v1, v2]))) : m_Sp l (m_EX E N xs) E mM_X3_init d 0 0 [.ref z, .ref tp] h true (fun v H tg' => v = none ∧ tg' = true ∧ H.length = h.length ∧ k_ex z h H ∧ H[z]? = some (k_rd tp 0 (-nI 1))) m_no := by
  have hM := mM_X3_init_ok
  refine m_Sp_of (by decide) (Nat.le_of_ble_eq_true rfl) ?_
  have hzl := k_lt hz
  refine m_J_run hM 1 rfl ⟨trivial, trivial⟩ ?_
  refine m_J_obj hM rfl kw_X3_3 (Nat.le_of_ble_eq_true rfl) ?_
  refine m_J_run hM 2 rfl ⟨trivial, trivial, trivial⟩ ?_
  refine m_J_putc hM rfl rfl (hz) (rfl) (by decide) ?_
  refine m_J_run hM 2 rfl ⟨trivial, trivial, trivial⟩ ?_
  refine m_J_putc hM rfl rfl (k_ss hz) (rfl) (by decide) ?_
  refine m_J_run hM 2 rfl ⟨trivial, trivial, trivial⟩ ?_
  refine m_J_putc hM rfl rfl (k_ss (k_ss hz)) (rfl) (by decide) ?_
  refine m_J_vret hM rfl rfl (Nat.le_refl _) (Nat.le_refl _) ⟨rfl, rfl, by simp, k_ex_s (k_ex_s (k_ex_s (k_ex_r _ _) (Or.inl rfl)) (Or.inl rfl)) (Or.inl rfl), k_ss (k_ss (k_ss hz))⟩
theorem c_line : m_Sp l (m_EX E N xs) E mM_X2_init d 0 0 [.ref z] h true (fun v H tg' => v = none ∧ tg' = true ∧ H = h) m_no := by
  have hM := mM_X2_init_ok
  refine m_Sp_of (by decide) (Nat.le_of_ble_eq_true rfl) ?_
  refine m_J_run hM 1 rfl ⟨trivial, trivial⟩ ?_
  refine m_J_obj hM rfl kw_X2_1 (Nat.le_of_ble_eq_true rfl) ?_
  exact m_J_vret hM rfl rfl (Nat.le_refl _) (Nat.le_refl _) ⟨rfl, rfl, rfl⟩
end
end
section
/-! CONSTRUCTORS: Book, Land, Search -/
theorem m_J_k {l : Launch} {EX : State → Prop} {E : mE} {M : mM} {d mc ms : Nat} {PR : Option Value → mH → Bool → Prop} {PX : String → mH → Prop} {tg : Bool} {kc ks kc' ks' : Nat} {S : mS} (h1 : kc = kc') (h2 : ks = ks') (hJ : m_J l EX E M d mc ms PR PX tg kc' ks' S) : m_J l EX E M d mc ms PR PX tg kc ks S := by subst h1; subst h2; exact hJ
theorem k_lok0 : k_lok k_q0 := by unfold k_lok; decide
section
variable {l : Launch} {E : mE} {N : Nat} {xs : Nat → Int32} {d : Nat} {h : mH} {z : Nat}
theorem c_book {v0 v1 : Value} (hz : h[z]? = some (.inr (0, [v0, v1]))) (hl : h.length < 900000) : m_Sp l (m_EX E N xs) E mM_X0_init (d + 1) 15 112 [.ref z] h true (fun v H tg' => v = none ∧ tg' = true ∧ H.length = h.length + 15 ∧ k_ex z h H ∧ k_BK H z h.length (fun i => h.length + 1 + i) 0 (fun _ => k_q0)) m_no := by
  have hM := mM_X0_init_ok
  refine m_Sp_of (by decide) (Nat.le_of_ble_eq_true rfl) ?_
  have hzl := k_lt hz
  refine m_J_run hM 1 rfl ⟨trivial, trivial⟩ ?_
  refine m_J_obj hM rfl kw_X0_3 (Nat.le_of_ble_eq_true rfl) ?_
  refine m_J_run hM 2 rfl ⟨trivial, trivial, trivial⟩ ?_
  refine m_J_anew (ti := 4) (K := 14) hM rfl kl_X0_9 rfl (by simp) (by decide) (by decide) (by omega) (by omega) (by omega) (by omega) ?_
  refine m_J_putc hM rfl rfl (k_ol _ hz) (rfl) (by decide) ?_
  refine m_J_run hM 2 rfl ⟨trivial, trivial, trivial⟩ ?_
  have loop : ∀ (n i : Nat) (H : mH), i + n = 14 → H.length = h.length + 1 + i → k_ex z h H → H[z]? = some (.inr (0, [.ref h.length, v1])) → H[h.length]? = some (k_ra 4 14 (fun j => if j < i then some (h.length + 1 + j) else none)) → (∀ j, j < i → H[h.length + 1 + j]? = some (k_ln k_q0)) → m_J l (m_EX E N xs) E mM_X0_init (d + 1) 15 112 (fun v H tg' => v = none ∧ tg' = true ∧ H.length = h.length + 15 ∧ k_ex z h H ∧ k_BK H z h.length (fun i => h.length + 1 + i) 0 (fun _ => k_q0)) m_no true (1 + i) (14 + 7 * i) (15, [some (.ref z), some (.int (nI i))], [], H) := by
    intro n
    induction n with
    | zero =>
      intro i H hi h1 h2 h3 h4 h5
      have e : i = 14 := by omega
      subst e
      refine m_J_run hM 3 rfl ⟨trivial, trivial, trivial, trivial⟩ ?_
      refine m_J_if (fun _ => ?_) (fun hc => absurd (nI_le (Nat.le_refl _) (by omega)) hc)
      refine m_J_run hM 2 rfl ⟨trivial, trivial, trivial⟩ ?_
      refine m_J_putf hM rfl rfl (h3) (rfl) ?_
      refine m_J_vret hM rfl rfl (by omega) (by omega) ⟨rfl, rfl, by rw [List.length_set]; omega, k_ex_s h2 (Or.inl rfl), k_ss h3, k_sn (show h.length ≠ z by omega) h4, fun i hi => k_sn (show h.length + 1 + i ≠ z by omega) (h5 i hi), by omega, fun i _ => k_lok0⟩
    | succ n ih =>
      intro i H hi h1 h2 h3 h4 h5
      refine m_J_run hM 3 rfl ⟨trivial, trivial, trivial, trivial⟩ ?_
      refine m_J_if (fun hc => absurd hc (nI_ge (by omega) (by omega))) (fun _ => ?_)
      refine m_J_run hM 1 rfl ⟨trivial, trivial⟩ ?_
      refine m_J_getf hM rfl rfl (h3) (rfl) ?_
      refine m_J_run hM 1 rfl ⟨trivial, trivial⟩ ?_
      refine m_newC (ci := 2) (K := 7) (fs := [.int (nI 0), .int (nI 0), .int (nI 0), .int (nI 0), .int (nI 0), .int (nI 0), .int (nI 0)]) hM rfl kn_X0_9 rfl rfl rfl (by omega) (by omega) (by omega) ?_
      refine m_J_run hM 1 rfl ⟨trivial, trivial⟩ ?_
      refine m_J_callI true (as := []) (rest := [.ref H.length, .int (nI i), .ref h.length]) (m_EX_warm E N xs) hM rfl kw_X0_17 rfl rfl rfl (Nat.le_of_ble_eq_true rfl) (by first | exact Nat.le_of_ble_eq_true rfl | omega) (by first | exact Nat.le_of_ble_eq_true rfl | omega) (c_line) (fun v9 h9 tg9 hp9 => ?_)
      obtain ⟨rfl, rfl, rfl⟩ := hp9
      refine ⟨fun _ => ⟨rfl, Nat.le_refl _⟩, ?_⟩
      refine m_aastN (ci := 2) hM rfl (k_ol _ h4) (k_nw H _) (Or.inl ⟨rfl, rfl⟩) (by omega) (by omega) ?_
      refine m_J_run hM 2 rfl ⟨trivial, trivial, trivial⟩ ?_
      rw [← k_succ i]
      refine m_J_k (by omega) (by omega) (ih (i + 1) _ (by omega) (by simp; omega) (k_ex_s (k_ex_a _ h2) (Or.inr (Nat.le_refl _))) (k_sn (by omega) (k_ol _ h3)) ?_ ?_)
      · rw [k_ss (k_ol _ h4)]
        refine congrArg (fun f => some (k_ra 4 14 f)) (funext fun j => ?_)
        by_cases e : j = i
        · subst e
          simp [va_up, h1]
        · by_cases e2 : j < i
          · simp [va_up, e, e2, Nat.lt_succ_of_lt e2]
          · simp [va_up, e, e2, show ¬ j < i + 1 by omega]
      · intro j hj
        refine k_sn (show h.length + 1 + j ≠ h.length by omega) ?_
        by_cases e : j = i
        · subst e
          rw [← h1]
          exact k_nw H _
        · exact k_ol _ (h5 j (by omega))
  exact loop 14 0 _ rfl (by simp) (k_ex_s (k_ex_a _ (k_ex_r _ _)) (Or.inl rfl)) (k_ss (k_ol _ hz)) (by rw [k_sn (show h.length ≠ z by omega) (k_nw h _)]; simp) (fun j hj => absurd hj (by omega))
/-- a new land: uses at h.length, sets, soils, rows -/
def k_w0 (n : Nat) : Nat → Nat := fun i => n + 4 + i
theorem c_land {v0 v1 v2 : Value} (hz : h[z]? = some (.inr (1, [v0, v1, v2]))) (hl : h.length < 800000) : m_Sp l (m_EX E N xs) E mM_X1_init (d + 2) 10 432 [.ref z] h true (fun v H tg' => v = none ∧ tg' = true ∧ H.length = h.length + 10 ∧ k_ex z h H ∧ k_LD H z h.length (h.length + 1) (h.length + 2) (h.length + 3) (k_w0 h.length) k_u0 (fun _ => nI 0)) m_no := by
  have hM := mM_X1_init_ok
  refine m_Sp_of (by decide) (Nat.le_of_ble_eq_true rfl) ?_
  have hzl := k_lt hz
  refine m_J_run hM 1 rfl ⟨trivial, trivial⟩ ?_
  refine m_J_obj hM rfl kw_X1_3 (Nat.le_of_ble_eq_true rfl) ?_
  refine m_J_run hM 1 rfl ⟨trivial, trivial⟩ ?_
  refine m_newC (ci := 6) (K := 1) (fs := [.null]) hM rfl kn_X1_9 rfl rfl rfl (by omega) (by omega) (by omega) ?_
  refine m_J_run hM 1 rfl ⟨trivial, trivial⟩ ?_
  refine m_J_callI false (as := []) (rest := [.ref h.length, .ref z]) (m_EX_warm E N xs) hM rfl kw_X1_11 rfl rfl rfl (Nat.le_of_ble_eq_true rfl) (by first | exact Nat.le_of_ble_eq_true rfl | omega) (by first | exact Nat.le_of_ble_eq_true rfl | omega) (c_uses (k_nw h _) (by simp; omega)) (fun v9 h9 tg9 hp9 => ?_)
  obtain ⟨rfl, rfl, p1, p2, p3, p4⟩ := hp9
  simp only [List.length_append, List.length_cons, List.length_nil] at p1 p3 p4
  refine ⟨fun _ => ⟨rfl, by simp; omega⟩, ?_⟩
  have x1 : k_ex z h h9 := k_ex_c (k_ex_a [.inr (6, [.null])] (k_ex_r z h)) p2 (Or.inr (Nat.le_refl _))
  have hz1 := k_oe p2 (k_ol _ hz) (show z ≠ h.length by omega)
  refine m_J_putc hM rfl rfl (hz1) (rfl) (by decide) ?_
  refine m_J_run hM 2 rfl ⟨trivial, trivial, trivial⟩ ?_
  refine m_newI (K := 60) hM rfl (by omega) (by simp; omega) (by omega) (by omega) ?_
  rw [List.length_set]
  refine m_J_putc hM rfl rfl (k_ol _ (k_ss hz1)) (rfl) (by decide) ?_
  refine m_J_run hM 3 rfl ⟨trivial, trivial, trivial, trivial⟩ ?_
  refine m_J_mna (K1 := 6) (K2 := 60) hM rfl kl_X1_22 kc_long (by decide) (by decide) (by decide) (by decide) (by decide) (by decide) (by simp; omega) (by omega) (by omega) ?_
  have e3 : ((List.set h9 z (.inr (1, [v0, v1, v2].set 0 (.ref h.length))) ++ [k_ia 60 (fun _ => nI 0)]).set z (.inr (1, ([v0, v1, v2].set 0 (.ref h.length)).set 1 (.ref h9.length)))).length = h.length + 3 := by simp; omega
  rw [e3, p1]
  refine m_J_putc hM rfl rfl (k_ol _ (k_ss (k_ol _ (k_ss hz1)))) (rfl) (by decide) ?_
  refine m_J_run hM 2 rfl ⟨trivial, trivial, trivial⟩ ?_
  have f0 : ∀ (c1 c2 c3 : va_E) (x y : List va_E), ((((List.set h9 z c1 ++ x).set z c2) ++ y).set z c3)[z]? = some c3 := fun c1 c2 c3 x y => k_ss (k_ol y (k_ss (k_ol x (k_ss hz1))))
  have fo : ∀ (c1 c2 c3 : va_E) (x y : List va_E) (k : Nat) (c : va_E), k ≠ z → h9[k]? = some c → ((((List.set h9 z c1 ++ x).set z c2) ++ y).set z c3)[k]? = some c := fun c1 c2 c3 x y k c hk h0 => k_sn hk (k_ol y (k_sn hk (k_ol x (k_sn hk h0))))
  have fx : ∀ (c1 c2 c3 c : va_E) (y : List va_E), ((((List.set h9 z c1 ++ [c]).set z c2) ++ y).set z c3)[h.length + 2]? = some c := by
    intro c1 c2 c3 c y
    refine k_sn (show h.length + 2 ≠ z by omega) (k_ol y (k_sn (show h.length + 2 ≠ z by omega) ?_))
    have e9 : (List.set h9 z c1).length = h.length + 2 := by rw [List.length_set]; omega
    rw [← e9]
    exact k_nw _ _
  have fy : ∀ (c1 c2 c3 c : va_E) (y : List va_E) (j : Nat) (c9 : va_E), y[j]? = some c9 → ((((List.set h9 z c1 ++ [c]).set z c2) ++ y).set z c3)[h.length + 3 + j]? = some c9 := by
    intro c1 c2 c3 c y j c9 hj
    refine k_sn (show h.length + 3 + j ≠ z by omega) ?_
    have e9 : ((List.set h9 z c1 ++ [c]).set z c2).length = h.length + 3 := by rw [List.length_set, List.length_append, List.length_set]; simp; omega
    rw [List.getElem?_append_right (by omega), e9, Nat.add_sub_cancel_left]
    exact hj
  have inner : ∀ (i : Nat) (hi : i < 6) (H : mH) (h1 : H[z]? = some (.inr (1, [.ref h.length, .ref (h.length + 2), .ref (h.length + 3)]))) (h2 : H[h.length + 3]? = some (k_ra 6 6 (k_arows (k_w0 h.length)))) (PRx : Option Value → mH → Bool → Prop), ∀ (n sq : Nat) (K : mH), sq + n = 60 → K[z]? = some (.inr (1, [.ref h.length, .ref (h.length + 2), .ref (h.length + 3)])) → K[h.length + 3]? = some (k_ra 6 6 (k_arows (k_w0 h.length))) → K[k_w0 h.length i]? = some (k_la 60 (k_upto (fun s => k_ar s i) (fun _ => Int64.ofNat 0) sq)) → K.set (k_w0 h.length i) (k_la 60 (k_arow i)) = H → m_J l (m_EX E N xs) E mM_X1_init (d + 2) 10 432 PRx m_no true 10 432 (69, [some (.ref z), some (.int (nI i)), some (.int (nI 60))], [], H) → m_J l (m_EX E N xs) E mM_X1_init (d + 2) 10 432 PRx m_no true 10 432 (44, [some (.ref z), some (.int (nI i)), some (.int (nI sq))], [], K) := by
    intro i hi H h1 h2 PRx n
    induction n with
    | zero =>
      intro sq K hsq k1 k2 k3 k4 hJ
      have e : sq = 60 := by omega
      subst e
      refine m_J_run hM 3 rfl ⟨trivial, trivial, trivial, trivial⟩ ?_
      refine m_J_if (fun _ => ?_) (fun hc => absurd (nI_le (Nat.le_refl _) (by omega)) hc)
      rw [← k4, show k_arow i = k_upto (fun s => k_ar s i) (fun _ => Int64.ofNat 0) 60 from rfl, k_s0 k3] at hJ
      exact hJ
    | succ n ih =>
      intro sq K hsq k1 k2 k3 k4 hJ
      refine m_J_run hM 3 rfl ⟨trivial, trivial, trivial, trivial⟩ ?_
      refine m_J_if (fun hc => absurd hc (nI_ge (by omega) (by omega))) (fun _ => ?_)
      refine m_J_run hM 1 rfl ⟨trivial, trivial⟩ ?_
      refine m_J_getf hM rfl rfl (k1) (rfl) ?_
      refine m_J_run hM 1 rfl ⟨trivial, trivial⟩ ?_
      refine m_aaldN hM rfl (k2) rfl (if_pos hi) (by omega) (by omega) ?_
      refine m_J_run hM 3 rfl ⟨trivial, trivial, trivial, trivial⟩ ?_
      refine m_callS (as := [.int (nI sq), .int (nI i)]) (rest := [.int (nI sq), .ref (k_w0 h.length i)]) (m_EX_warm E N xs) hM rfl kw_X1_27 rfl (s_around sq i (by omega) (by omega)) rfl (Nat.le_of_ble_eq_true rfl) (Nat.le_of_ble_eq_true rfl) (Nat.le_of_ble_eq_true rfl) (fun ht => ⟨ht, Nat.le_refl _⟩) ?_
      refine m_lastN hM rfl (k3) (by omega) (by omega) ?_
      refine m_J_run hM 2 rfl ⟨trivial, trivial, trivial⟩ ?_
      rw [← k_succ sq, k_upto_L (fun s => k_ar s i)]
      exact ih (sq + 1) _ (by omega) (k_sn (k_ne k1 k3) k1) (k_sn (k_neT k2 k3 (by simp)) k2) (k_ss k3) (by rw [k_s2]; exact k4) hJ
  have outer : ∀ (n i : Nat) (H : mH), i + n = 6 → H.length = h.length + 10 → k_ex z h H → H[z]? = some (.inr (1, [.ref h.length, .ref (h.length + 2), .ref (h.length + 3)])) → H[h.length]? = some (k_uses (h.length + 1)) → H[h.length + 1]? = some (k_la 5 k_u0) → H[h.length + 2]? = some (k_ia 60 (fun _ => nI 0)) → H[h.length + 3]? = some (k_ra 6 6 (k_arows (k_w0 h.length))) → (∀ j, j < 6 → H[k_w0 h.length j]? = some (k_la 60 (if j < i then k_arow j else fun _ => Int64.ofNat 0))) → ∀ v2 : Option Value, m_J l (m_EX E N xs) E mM_X1_init (d + 2) 10 432 (fun v H tg' => v = none ∧ tg' = true ∧ H.length = h.length + 10 ∧ k_ex z h H ∧ k_LD H z h.length (h.length + 1) (h.length + 2) (h.length + 3) (k_w0 h.length) k_u0 (fun _ => nI 0)) m_no true 10 432 (37, [some (.ref z), some (.int (nI i)), v2], [], H) := by
    intro n
    induction n with
    | zero =>
      intro i H hi q1 q2 q3 q4 q5 q6 q7 q8 v2
      have e : i = 6 := by omega
      subst e
      refine m_J_run hM 3 rfl ⟨trivial, trivial, trivial, trivial⟩ ?_
      refine m_J_if (fun _ => ?_) (fun hc => absurd ((nI_lt (show 5 < 6 by omega) (by omega))) hc)
      refine m_J_vret hM rfl rfl (by omega) (by omega) ⟨rfl, rfl, q1, q2, q3, q4, q5, q6, q7, fun i hi => ?_⟩
      rw [q8 i hi, if_pos hi]
    | succ n ih =>
      intro i H hi q1 q2 q3 q4 q5 q6 q7 q8 v2
      refine m_J_run hM 3 rfl ⟨trivial, trivial, trivial, trivial⟩ ?_
      refine m_J_if (fun hc => absurd hc ((fun q => absurd (nI_le (show i ≤ 5 by omega) (by omega)) (Int32.not_le.mpr q)))) (fun _ => ?_)
      refine m_J_run hM 2 rfl ⟨trivial, trivial, trivial⟩ ?_
      have hw : H[k_w0 h.length i]? = some (k_la 60 (fun _ => Int64.ofNat 0)) := by rw [q8 i (by omega), if_neg (by omega)]
      have hwl : h.length ≤ k_w0 h.length i := by unfold k_w0; omega
      have hwz : ∀ k, k < h.length + 4 → k ≠ k_w0 h.length i := fun k hk => by unfold k_w0; omega
      refine inner i (by omega) (H.set (k_w0 h.length i) (k_la 60 (k_arow i))) (k_sn (hwz _ (by omega)) q3) (k_sn (hwz _ (by omega)) q7) _ 60 0 H rfl q3 q7 (by rw [k_upto_0]; exact hw) rfl ?_
      refine m_J_run hM 2 rfl ⟨trivial, trivial, trivial⟩ ?_
      rw [← k_succ i]
      refine ih (i + 1) _ (by omega) (by rw [List.length_set]; exact q1) (k_ex_s q2 (Or.inr hwl)) (k_sn (hwz _ (by omega)) q3) (k_sn (hwz _ (by omega)) q4) (k_sn (hwz _ (by omega)) q5) (k_sn (hwz _ (by omega)) q6) (k_sn (hwz _ (by omega)) q7) ?_ _
      intro j hj
      by_cases e : j = i
      · subst e
        rw [k_ss hw, if_pos (by omega)]
      · rw [k_sn (show k_w0 h.length j ≠ k_w0 h.length i by unfold k_w0; omega) (q8 j hj)]
        by_cases e2 : j < i
        · rw [if_pos e2, if_pos (by omega)]
        · rw [if_neg e2, if_neg (by omega)]
  refine m_J_k rfl rfl (outer 6 0 _ rfl ?_ ?_ (f0 _ _ _ _ _) (fo _ _ _ _ _ _ _ (by omega) p3) (fo _ _ _ _ _ _ _ (by omega) p4) (fx _ _ _ _ _) (fy _ _ _ _ _ 0 _ ?_) (fun j hj => ?_) none)
  · simp; omega
  · exact k_ex_s (k_ex_a _ (k_ex_s (k_ex_a _ (k_ex_s x1 (Or.inl rfl))) (Or.inl rfl))) (Or.inl rfl)
  · simp only [List.getElem?_cons_zero, Option.some.injEq]
    refine congrArg (k_ra 6 6) (funext fun j => ?_)
    unfold k_arows k_w0
    by_cases e : j < 6
    · rw [if_pos e]
    · rw [if_neg e]
  · rw [if_neg (by omega), show k_w0 h.length j = h.length + 3 + (j + 1) by unfold k_w0; omega]
    refine fy _ _ _ _ _ (j + 1) _ ?_
    rw [List.getElem?_cons_succ, List.getElem?_replicate, if_pos hj]
    rfl
end
end
section
/-! CONSTRUCTORS: the heap behind them, word for word -/
theorem k_ext {h H x : mH} {z : Nat} {c : va_E} (hz : z < h.length) (hl : H.length = h.length + x.length) (hx : k_ex z h H) (hc : H[z]? = some c) (hn : ∀ j, j < x.length → H[h.length + j]? = x[j]?) : H = h.set z c ++ x := by
  apply List.ext_getElem?
  intro i
  by_cases hi : i < h.length
  · rw [List.getElem?_append_left (by rw [List.length_set]; exact hi)]
    by_cases e : i = z
    · subst e
      rw [hc, List.getElem?_set_self hi]
    · rw [List.getElem?_set_ne (Ne.symm e)]
      exact hx.2 i hi e
  · rw [List.getElem?_append_right (by rw [List.length_set]; omega), List.length_set]
    by_cases h2 : i - h.length < x.length
    · rw [← hn _ h2, show h.length + (i - h.length) = i by omega]
    · rw [List.getElem?_eq_none (by omega), List.getElem?_eq_none (by omega)]
theorem k_e_uses {h H : mH} {z : Nat} (hz : z < h.length) (hp : H.length = h.length + 1 ∧ k_ex z h H ∧ H[z]? = some (k_uses h.length) ∧ H[h.length]? = some (k_la 5 k_u0)) : H = h.set z (k_uses h.length) ++ [k_la 5 k_u0] :=
  k_ext hz hp.1 hp.2.1 hp.2.2.1 (fun j hj => by have : j = 0 := by simp at hj; omega
                                                subst this; exact hp.2.2.2)
theorem k_e_tape {h H : mH} {z : Nat} (hz : z < h.length) (hp : H.length = h.length + 1 ∧ k_ex z h H ∧ H[z]? = some (k_tp h.length 0) ∧ H[h.length]? = some (k_ba 400 (fun _ => nI 0))) : H = h.set z (k_tp h.length 0) ++ [k_ba 400 (fun _ => nI 0)] :=
  k_ext hz hp.1 hp.2.1 hp.2.2.1 (fun j hj => by have : j = 0 := by simp at hj; omega
                                                subst this; exact hp.2.2.2)
theorem k_e_reader {h H : mH} {z tp : Nat} (hz : z < h.length) (hp : H.length = h.length ∧ k_ex z h H ∧ H[z]? = some (k_rd tp 0 (-nI 1))) : H = h.set z (k_rd tp 0 (-nI 1)) := by
  have := k_ext (x := []) hz hp.1 hp.2.1 hp.2.2 (fun j hj => absurd hj (by simp))
  rw [List.append_nil] at this
  exact this
theorem k_e_book {h H : mH} {z : Nat} (hz : z < h.length) (hp : H.length = h.length + 15 ∧ k_ex z h H ∧ k_BK H z h.length (fun i => h.length + 1 + i) 0 (fun _ => k_q0)) : H = h.set z (.inr (0, [.ref h.length, .int (nI 0)])) ++ (k_ra 4 14 (k_rws (fun i => h.length + 1 + i)) :: List.replicate 14 (k_ln k_q0)) := by
  refine k_ext hz (by rw [hp.1]; rfl) hp.2.1 hp.2.2.1 (fun j hj => ?_)
  cases j with
  | zero => exact hp.2.2.2.1
  | succ j =>
    have hj2 : j < 14 := by simp at hj; omega
    rw [List.getElem?_cons_succ, List.getElem?_replicate, if_pos hj2, show h.length + (j + 1) = h.length + 1 + j by omega]
    exact hp.2.2.2.2.1 j hj2
theorem k_e_land {h H : mH} {z : Nat} (hz : z < h.length) (hp : H.length = h.length + 10 ∧ k_ex z h H ∧ k_LD H z h.length (h.length + 1) (h.length + 2) (h.length + 3) (k_w0 h.length) k_u0 (fun _ => nI 0)) : H = h.set z (.inr (1, [.ref h.length, .ref (h.length + 2), .ref (h.length + 3)])) ++ [k_uses (h.length + 1), k_la 5 k_u0, k_ia 60 (fun _ => nI 0), k_ra 6 6 (k_arows (k_w0 h.length)), k_la 60 (k_arow 0), k_la 60 (k_arow 1), k_la 60 (k_arow 2), k_la 60 (k_arow 3), k_la 60 (k_arow 4), k_la 60 (k_arow 5)] := by
  obtain ⟨h1, h2, a1, a2, a3, a4, a5, a6⟩ := hp
  refine k_ext hz (by rw [h1]; rfl) h2 a1 (fun j hj => ?_)
  match j with
  | 0 => exact a2
  | 1 => exact a3
  | 2 => exact a4
  | 3 => exact a5
  | 4 => exact a6 0 (by omega)
  | 5 => exact a6 1 (by omega)
  | 6 => exact a6 2 (by omega)
  | 7 => exact a6 3 (by omega)
  | 8 => exact a6 4 (by omega)
  | 9 => exact a6 5 (by omega)
  | j + 10 => exact absurd hj (by simp)
section
variable {l : Launch} {E : mE} {N : Nat} {xs : Nat → Int32} {d : Nat} {h : mH} {z : Nat}
theorem c_land2 {v0 v1 v2 : Value} {g u s r : Nat} (hz : h[z]? = some (.inr (1, [v0, v1, v2]))) (hg : h[g]? = some (.inr (1, [.ref u, .ref s, .ref r]))) (hgz : g ≠ z) (hl : h.length < 800000) : m_Dt l (m_EX E N xs) E mM_X1_init_ (d + 1) 2 6 [.ref z, .ref g] h true none (h.set z (.inr (1, [.ref h.length, .ref s, .ref r])) ++ [k_uses (h.length + 1), k_la 5 k_u0]) true := by
  have hM := mM_X1_init__ok
  refine m_Sp_of (by decide) (Nat.le_of_ble_eq_true rfl) ?_
  have hzl := k_lt hz
  have hgl := k_lt hg
  refine m_J_run hM 1 rfl ⟨trivial, trivial⟩ ?_
  refine m_J_obj hM rfl kw_X1_3 (Nat.le_of_ble_eq_true rfl) ?_
  refine m_J_run hM 1 rfl ⟨trivial, trivial⟩ ?_
  refine m_newC (ci := 6) (K := 1) (fs := [.null]) hM rfl kn_X1_9 rfl rfl rfl (by omega) (by omega) (by omega) ?_
  refine m_J_run hM 1 rfl ⟨trivial, trivial⟩ ?_
  refine m_J_callI false (as := []) (rest := [.ref h.length, .ref z]) (m_EX_warm E N xs) hM rfl kw_X1_11 rfl rfl rfl (Nat.le_of_ble_eq_true rfl) (by first | exact Nat.le_of_ble_eq_true rfl | omega) (by first | exact Nat.le_of_ble_eq_true rfl | omega) (c_uses (k_nw h _) (by simp; omega)) (fun v9 h9 tg9 hp9 => ?_)
  obtain ⟨rfl, rfl, hp9⟩ := hp9
  refine ⟨fun _ => ⟨rfl, by rw [hp9.1]; exact Nat.le_refl _⟩, ?_⟩
  have e9 := k_e_uses (by simp) hp9
  have e8 : h9 = h ++ [k_uses (h.length + 1), k_la 5 k_u0] := by
    rw [e9]
    simp [List.set_append_right]
  clear e9 hp9
  subst e8
  refine m_J_putc hM rfl rfl (k_ol _ hz) (rfl) (by decide) ?_
  refine m_J_run hM 2 rfl ⟨trivial, trivial, trivial⟩ ?_
  refine m_J_getf hM rfl rfl (k_sn hgz (k_ol _ hg)) (rfl) ?_
  refine m_J_putc hM rfl rfl (k_ss (k_ol _ hz)) (rfl) (by decide) ?_
  refine m_J_run hM 2 rfl ⟨trivial, trivial, trivial⟩ ?_
  rw [k_s2]
  refine m_J_getf hM rfl rfl (k_sn hgz (k_ol _ hg)) (rfl) ?_
  refine m_J_putc hM rfl rfl (k_ss (k_ol _ hz)) (rfl) (by decide) ?_
  rw [k_s2]
  refine m_vret hM rfl rfl (Nat.le_of_ble_eq_true rfl) (Nat.le_of_ble_eq_true rfl) ?_
  rw [List.set_append_left _ _ hzl]
  rfl
theorem c_search {f0 f1 f2 f3 f4 f5 f6 f7 : Value} {g bk u s r : Nat} (hz : h[z]? = some (.inr (4, [f0, f1, f2, f3, f4, f5, f6, f7]))) (hg : h[g]? = some (.inr (1, [.ref u, .ref s, .ref r]))) (hl : h.length < 700000) : m_Dt l (m_EX E N xs) E mM_X4_init (d + 2) 7 34 [.ref z, .ref g, .ref bk] h true none (h.set z (k_so h.length (h.length + 3) (h.length + 4) (h.length + 6) bk 0 false (nI 0)) ++ [.inr (1, [.ref (h.length + 1), .ref s, .ref r]), k_uses (h.length + 2), k_la 5 k_u0, k_ia 5 (fun _ => nI 0), k_uses (h.length + 5), k_la 5 k_u0, k_ia 14 (fun _ => nI 0)]) true := by
  have hM := mM_X4_init_ok
  refine m_Sp_of (by decide) (Nat.le_of_ble_eq_true rfl) ?_
  have hzl := k_lt hz
  have hgl := k_lt hg
  refine m_J_run hM 1 rfl ⟨trivial, trivial⟩ ?_
  refine m_J_obj hM rfl kw_X4_3 (Nat.le_of_ble_eq_true rfl) ?_
  refine m_J_run hM 1 rfl ⟨trivial, trivial⟩ ?_
  refine m_newC (ci := 1) (K := 3) (fs := [.null, .null, .null]) hM rfl kn_X4_9 rfl rfl rfl (by omega) (by omega) (by omega) ?_
  refine m_J_run hM 2 rfl ⟨trivial, trivial, trivial⟩ ?_
  refine m_callI false (as := [.ref g]) (rest := [.ref h.length, .ref z]) (m_EX_warm E N xs) hM rfl kw_X4_11 rfl rfl (c_land2 (k_nw h _) (k_ol _ hg) (by omega) (by simp; omega)) rfl (Nat.le_of_ble_eq_true rfl) (Nat.le_of_ble_eq_true rfl) (Nat.le_of_ble_eq_true rfl) (fun _ => ⟨rfl, by simp⟩) ?_
  refine m_J_eqH (H' := h ++ [.inr (1, [.ref (h.length + 1), .ref s, .ref r]), k_uses (h.length + 2), k_la 5 k_u0]) (by simp [List.set_append_right]) ?_
  refine m_J_putc hM rfl rfl (k_ol _ hz) (rfl) (by decide) ?_
  rw [List.set_append_left _ _ hzl]
  refine m_J_run hM 2 rfl ⟨trivial, trivial, trivial⟩ ?_
  refine m_newI (K := 5) hM rfl (by omega) (by simp; omega) (by omega) (by omega) ?_
  refine m_J_putc hM rfl rfl (k_ol _ (k_ol _ (k_ss hz))) (rfl) (by decide) ?_
  rw [List.append_assoc, List.set_append_left _ _ (by rw [List.length_set]; exact hzl), k_s2]
  refine m_J_run hM 1 rfl ⟨trivial, trivial⟩ ?_
  refine m_newC (ci := 6) (K := 1) (fs := [.null]) hM rfl kn_X4_24 rfl rfl rfl (by simp; omega) (by omega) (by omega) ?_
  refine m_J_run hM 1 rfl ⟨trivial, trivial⟩ ?_
  refine m_J_callI false (as := []) (rest := [.ref _, .ref z]) (m_EX_warm E N xs) hM rfl kw_X4_26 rfl rfl rfl (Nat.le_of_ble_eq_true rfl) (by first | exact Nat.le_of_ble_eq_true rfl | omega) (by first | exact Nat.le_of_ble_eq_true rfl | omega) (c_uses (k_nw _ _) (by simp; omega)) (fun v9 h9 tg9 hp9 => ?_)
  obtain ⟨rfl, rfl, hp9⟩ := hp9
  refine ⟨fun _ => ⟨rfl, by rw [hp9.1]; exact Nat.le_refl _⟩, ?_⟩
  have e9 := k_e_uses (by simp) hp9
  clear hp9
  have e8 : h9 = h.set z (.inr (4, [.ref h.length, .ref (h.length + 3), f2, f3, f4, f5, f6, f7])) ++ [.inr (1, [.ref (h.length + 1), .ref s, .ref r]), k_uses (h.length + 2), k_la 5 k_u0, k_ia 5 (fun _ => nI 0), k_uses (h.length + 5), k_la 5 k_u0] := by
    rw [e9]
    simp [List.set_append_right, List.append_assoc]
  clear e9
  subst e8
  have hz1 : ∀ c, (h.set z c)[z]? = some c := fun c => k_ss hz
  have hs1 : ∀ (c c' : va_E) (x : List va_E), (h.set z c ++ x).set z c' = h.set z c' ++ x := fun c c' x => by rw [List.set_append_left _ _ (by rw [List.length_set]; exact hzl), k_s2]
  simp only [List.length_append, List.length_set, List.length_cons, List.length_nil]
  refine m_J_putc hM rfl rfl (k_ol _ (hz1 _)) (rfl) (by decide) ?_
  rw [hs1]
  refine m_J_run hM 2 rfl ⟨trivial, trivial, trivial⟩ ?_
  refine m_newI (K := 14) hM rfl (by omega) (by simp; omega) (by omega) (by omega) ?_
  simp only [List.length_append, List.length_set, List.length_cons, List.length_nil]
  refine m_J_putc hM rfl rfl (k_ol _ (k_ol _ (hz1 _))) (rfl) (by decide) ?_
  rw [List.append_assoc, hs1]
  refine m_J_run hM 2 rfl ⟨trivial, trivial, trivial⟩ ?_
  refine m_J_putc hM rfl rfl (k_ol _ (hz1 _)) (rfl) (by decide) ?_
  rw [hs1]
  refine m_J_run hM 2 rfl ⟨trivial, trivial, trivial⟩ ?_
  refine m_J_putc hM rfl rfl (k_ol _ (hz1 _)) (rfl) (by decide) ?_
  rw [hs1]
  refine m_J_run hM 2 rfl ⟨trivial, trivial, trivial⟩ ?_
  refine m_J_putc hM rfl rfl (k_ol _ (hz1 _)) (rfl) (by decide) ?_
  rw [hs1]
  refine m_J_run hM 2 rfl ⟨trivial, trivial, trivial⟩ ?_
  refine m_J_putc hM rfl rfl (k_ol _ (hz1 _)) (rfl) (by decide) ?_
  rw [hs1]
  refine m_vret hM rfl rfl (Nat.le_of_ble_eq_true rfl) (Nat.le_of_ble_eq_true rfl) ?_
  rfl
end
end
section
/-! THE HEAP OF A LandUses (written by wip/gen_unit.py) -/
def k_pls : Nat → Option Nat := fun i => if i < 6 then some (18 + 2 * i) else none
def k_U (fr : Int64) (gt : Nat) (pn : Nat) (yr : Nat) (wg : Int32) (se : Bool) (sw : Bool) (n : Nat) (g : Nat → Int32) (rp : Nat) (rq : Int32) (f : Nat → Int64) (so : Nat → Int32) (nx : Nat → Int64) (pl : Nat → Nat → Int64) (mL : Nat) (qL : Nat → kL) (mS : Nat) (qS : Nat → kL) (sb : Nat) (cnt : Nat) (fd : Bool) (bw : Int32) (F : Nat → Int64) (sqs : Nat → Nat) (bu : Nat → Int64) (wb : Nat → Int32) (o : mH) : mH :=
  .inr (7, [.ref 1, .ref 3, .ref 4, .ref 62, .ref 15, .ref 17, .ref (bif sw then 46 else 30), .ref (bif sw then 30 else 46), .long fr, .int (nI gt), .int (nI pn), .int (nI yr), .int wg, .int (k_z se)]) ::
  k_tp 2 n ::
  k_ba 400 g ::
  k_rd 1 rp rq ::
  .inr (1, [.ref 5, .ref 7, .ref 8]) ::
  k_uses 6 ::
  k_la 5 f ::
  k_ia 60 so ::
  k_ra 6 6 (k_arows (k_w0 5)) ::
  k_la 60 (k_arow 0) ::
  k_la 60 (k_arow 1) ::
  k_la 60 (k_arow 2) ::
  k_la 60 (k_arow 3) ::
  k_la 60 (k_arow 4) ::
  k_la 60 (k_arow 5) ::
  k_uses 16 ::
  k_la 5 nx ::
  k_ra 5 6 k_pls ::
  k_uses 19 ::
  k_la 5 (pl 0) ::
  k_uses 21 ::
  k_la 5 (pl 1) ::
  k_uses 23 ::
  k_la 5 (pl 2) ::
  k_uses 25 ::
  k_la 5 (pl 3) ::
  k_uses 27 ::
  k_la 5 (pl 4) ::
  k_uses 29 ::
  k_la 5 (pl 5) ::
  .inr (0, [.ref 31, .int (nI (bif sw then mS else mL))]) ::
  k_ra 4 14 (k_rws (fun i => 31 + 1 + i)) ::
  k_ln (bif sw then qS 0 else qL 0) ::
  k_ln (bif sw then qS 1 else qL 1) ::
  k_ln (bif sw then qS 2 else qL 2) ::
  k_ln (bif sw then qS 3 else qL 3) ::
  k_ln (bif sw then qS 4 else qL 4) ::
  k_ln (bif sw then qS 5 else qL 5) ::
  k_ln (bif sw then qS 6 else qL 6) ::
  k_ln (bif sw then qS 7 else qL 7) ::
  k_ln (bif sw then qS 8 else qL 8) ::
  k_ln (bif sw then qS 9 else qL 9) ::
  k_ln (bif sw then qS 10 else qL 10) ::
  k_ln (bif sw then qS 11 else qL 11) ::
  k_ln (bif sw then qS 12 else qL 12) ::
  k_ln (bif sw then qS 13 else qL 13) ::
  .inr (0, [.ref 47, .int (nI (bif sw then mL else mS))]) ::
  k_ra 4 14 (k_rws (fun i => 47 + 1 + i)) ::
  k_ln (bif sw then qL 0 else qS 0) ::
  k_ln (bif sw then qL 1 else qS 1) ::
  k_ln (bif sw then qL 2 else qS 2) ::
  k_ln (bif sw then qL 3 else qS 3) ::
  k_ln (bif sw then qL 4 else qS 4) ::
  k_ln (bif sw then qL 5 else qS 5) ::
  k_ln (bif sw then qL 6 else qS 6) ::
  k_ln (bif sw then qL 7 else qS 7) ::
  k_ln (bif sw then qL 8 else qS 8) ::
  k_ln (bif sw then qL 9 else qS 9) ::
  k_ln (bif sw then qL 10 else qS 10) ::
  k_ln (bif sw then qL 11 else qS 11) ::
  k_ln (bif sw then qL 12 else qS 12) ::
  k_ln (bif sw then qL 13 else qS 13) ::
  k_so 63 66 67 69 sb cnt fd bw ::
  .inr (1, [.ref 64, .ref 7, .ref 8]) ::
  k_uses 65 ::
  k_la 5 F ::
  k_ia 5 (fun i => nI (sqs i)) ::
  k_uses 68 ::
  k_la 5 bu ::
  k_ia 14 wb :: o
theorem m_J_S {l : Launch} {EX : State → Prop} {E : mE} {M : mM} {d mc ms : Nat} {PR : Option Value → mH → Bool → Prop} {PX : String → mH → Prop} {tg : Bool} {kc ks : Nat} {S S2 : mS} (h : S = S2) (h2 : m_J l EX E M d mc ms PR PX tg kc ks S2) : m_J l EX E M d mc ms PR PX tg kc ks S := h ▸ h2
section
variable {l : Launch} {E : mE} {N : Nat} {xs : Nat → Int32} {d : Nat}
set_option maxHeartbeats 4000000 in
set_option maxRecDepth 4000 in
theorem c_unit : m_Dt l (m_EX E N xs) E mM_X8_init (d + 3) 69 1158 [.ref 0] [.inr (7, [.null, .null, .null, .null, .null, .null, .null, .null, .long 0, .int (nI 0), .int (nI 0), .int (nI 0), .int (nI 0), .int (nI 0)])] true none (k_U 0 0 0 0 (-nI 1) false false 0 (fun _ => nI 0) 0 (-nI 1) k_u0 (fun _ => nI 0) k_u0 (fun _ => k_u0) 0 (fun _ => k_q0) 0 (fun _ => k_q0) 30 0 false (nI 0) k_u0 (fun _ => 0) k_u0 (fun _ => nI 0) []) true := by
  have hM := mM_X8_init_ok
  refine m_Sp_of (by decide) (Nat.le_of_ble_eq_true rfl) ?_
  refine m_J_run hM 1 rfl ⟨trivial, trivial⟩ ?_
  refine m_J_obj hM rfl kw_X8_3 (Nat.le_of_ble_eq_true rfl) ?_
  refine m_J_run hM 1 rfl ⟨trivial, trivial⟩ ?_
  refine m_newC (ci := 5) (K := 2) (fs := [.null, .int (nI 0)]) hM rfl kn_X8_9 rfl rfl rfl (Nat.le_of_ble_eq_true rfl) (Nat.le_of_ble_eq_true rfl) (Nat.le_of_ble_eq_true rfl) ?_
  refine m_J_S (S2 := (8, [some (.ref 0), none], [.ref 1, .ref 0], [.inr (7, [.null, .null, .null, .null, .null, .null, .null, .null, .long 0, .int (nI 0), .int (nI 0), .int (nI 0), .int (nI 0), .int (nI 0)]), .inr (5, [.null, .int (nI 0)])])) rfl ?_
  refine m_J_run hM 1 rfl ⟨trivial, trivial⟩ ?_
  refine m_J_callI false (as := []) (rest := [.ref 1, .ref 0]) (m_EX_warm E N xs) hM rfl kw_X8_11 rfl rfl rfl (Nat.le_of_ble_eq_true rfl) (Nat.le_of_ble_eq_true rfl) (Nat.le_of_ble_eq_true rfl) (c_tape rfl (by decide)) (fun v9 h9 tg9 hp9 => ?_)
  obtain ⟨rfl, rfl, hp9⟩ := hp9
  refine ⟨fun _ => ⟨rfl, by rw [hp9.1]; exact Nat.le_refl _⟩, ?_⟩
  have e9 := k_e_tape (by decide) hp9
  clear hp9; subst e9
  refine m_J_S (S2 := (12, [some (.ref 0), none], [.ref 1, .ref 0], [.inr (7, [.null, .null, .null, .null, .null, .null, .null, .null, .long 0, .int (nI 0), .int (nI 0), .int (nI 0), .int (nI 0), .int (nI 0)]), k_tp 2 0, k_ba 400 (fun _ => nI 0)])) rfl ?_
  refine m_J_putc hM rfl rfl (rfl) (rfl) (by decide) ?_
  refine m_J_S (S2 := (15, [some (.ref 0), none], [], [.inr (7, [.ref 1, .null, .null, .null, .null, .null, .null, .null, .long 0, .int (nI 0), .int (nI 0), .int (nI 0), .int (nI 0), .int (nI 0)]), k_tp 2 0, k_ba 400 (fun _ => nI 0)])) rfl ?_
  refine m_J_run hM 1 rfl ⟨trivial, trivial⟩ ?_
  refine m_newC (ci := 3) (K := 3) (fs := [.null, .int (nI 0), .int (nI 0)]) hM rfl kn_X8_16 rfl rfl rfl (Nat.le_of_ble_eq_true rfl) (Nat.le_of_ble_eq_true rfl) (Nat.le_of_ble_eq_true rfl) ?_
  refine m_J_S (S2 := (19, [some (.ref 0), none], [.ref 3, .ref 0], [.inr (7, [.ref 1, .null, .null, .null, .null, .null, .null, .null, .long 0, .int (nI 0), .int (nI 0), .int (nI 0), .int (nI 0), .int (nI 0)]), k_tp 2 0, k_ba 400 (fun _ => nI 0), .inr (3, [.null, .int (nI 0), .int (nI 0)])])) rfl ?_
  refine m_J_run hM 2 rfl ⟨trivial, trivial, trivial⟩ ?_
  refine m_J_getf hM rfl rfl (rfl) (rfl) ?_
  refine m_J_callI false (as := [.ref 1]) (rest := [.ref 3, .ref 0]) (m_EX_warm E N xs) hM rfl kw_X8_18 rfl rfl rfl (Nat.le_of_ble_eq_true rfl) (Nat.le_of_ble_eq_true rfl) (Nat.le_of_ble_eq_true rfl) (c_reader rfl) (fun v9 h9 tg9 hp9 => ?_)
  obtain ⟨rfl, rfl, hp9⟩ := hp9
  refine ⟨fun _ => ⟨rfl, by rw [hp9.1]; exact Nat.le_refl _⟩, ?_⟩
  have e9 := k_e_reader (by decide) hp9
  clear hp9; subst e9
  refine m_J_S (S2 := (27, [some (.ref 0), none], [.ref 3, .ref 0], [.inr (7, [.ref 1, .null, .null, .null, .null, .null, .null, .null, .long 0, .int (nI 0), .int (nI 0), .int (nI 0), .int (nI 0), .int (nI 0)]), k_tp 2 0, k_ba 400 (fun _ => nI 0), k_rd 1 0 (-nI 1)])) rfl ?_
  refine m_J_putc hM rfl rfl (rfl) (rfl) (by decide) ?_
  refine m_J_S (S2 := (30, [some (.ref 0), none], [], [.inr (7, [.ref 1, .ref 3, .null, .null, .null, .null, .null, .null, .long 0, .int (nI 0), .int (nI 0), .int (nI 0), .int (nI 0), .int (nI 0)]), k_tp 2 0, k_ba 400 (fun _ => nI 0), k_rd 1 0 (-nI 1)])) rfl ?_
  refine m_J_run hM 1 rfl ⟨trivial, trivial⟩ ?_
  refine m_newC (ci := 1) (K := 3) (fs := [.null, .null, .null]) hM rfl kn_X8_25 rfl rfl rfl (Nat.le_of_ble_eq_true rfl) (Nat.le_of_ble_eq_true rfl) (Nat.le_of_ble_eq_true rfl) ?_
  refine m_J_S (S2 := (34, [some (.ref 0), none], [.ref 4, .ref 0], [.inr (7, [.ref 1, .ref 3, .null, .null, .null, .null, .null, .null, .long 0, .int (nI 0), .int (nI 0), .int (nI 0), .int (nI 0), .int (nI 0)]), k_tp 2 0, k_ba 400 (fun _ => nI 0), k_rd 1 0 (-nI 1), .inr (1, [.null, .null, .null])])) rfl ?_
  refine m_J_run hM 1 rfl ⟨trivial, trivial⟩ ?_
  refine m_J_callI false (as := []) (rest := [.ref 4, .ref 0]) (m_EX_warm E N xs) hM rfl kw_X8_27 rfl rfl rfl (Nat.le_of_ble_eq_true rfl) (Nat.le_of_ble_eq_true rfl) (Nat.le_of_ble_eq_true rfl) (c_land rfl (by decide)) (fun v9 h9 tg9 hp9 => ?_)
  obtain ⟨rfl, rfl, hp9⟩ := hp9
  refine ⟨fun _ => ⟨rfl, by rw [hp9.1]; exact Nat.le_refl _⟩, ?_⟩
  have e9 := k_e_land (by decide) hp9
  clear hp9; subst e9
  refine m_J_S (S2 := (38, [some (.ref 0), none], [.ref 4, .ref 0], [.inr (7, [.ref 1, .ref 3, .null, .null, .null, .null, .null, .null, .long 0, .int (nI 0), .int (nI 0), .int (nI 0), .int (nI 0), .int (nI 0)]), k_tp 2 0, k_ba 400 (fun _ => nI 0), k_rd 1 0 (-nI 1), .inr (1, [.ref 5, .ref 7, .ref 8]), k_uses 6, k_la 5 k_u0, k_ia 60 (fun _ => nI 0), k_ra 6 6 (k_arows (k_w0 5)), k_la 60 (k_arow 0), k_la 60 (k_arow 1), k_la 60 (k_arow 2), k_la 60 (k_arow 3), k_la 60 (k_arow 4), k_la 60 (k_arow 5)])) rfl ?_
  refine m_J_putc hM rfl rfl (rfl) (rfl) (by decide) ?_
  refine m_J_S (S2 := (41, [some (.ref 0), none], [], [.inr (7, [.ref 1, .ref 3, .ref 4, .null, .null, .null, .null, .null, .long 0, .int (nI 0), .int (nI 0), .int (nI 0), .int (nI 0), .int (nI 0)]), k_tp 2 0, k_ba 400 (fun _ => nI 0), k_rd 1 0 (-nI 1), .inr (1, [.ref 5, .ref 7, .ref 8]), k_uses 6, k_la 5 k_u0, k_ia 60 (fun _ => nI 0), k_ra 6 6 (k_arows (k_w0 5)), k_la 60 (k_arow 0), k_la 60 (k_arow 1), k_la 60 (k_arow 2), k_la 60 (k_arow 3), k_la 60 (k_arow 4), k_la 60 (k_arow 5)])) rfl ?_
  refine m_J_run hM 1 rfl ⟨trivial, trivial⟩ ?_
  refine m_newC (ci := 6) (K := 1) (fs := [.null]) hM rfl kn_X8_32 rfl rfl rfl (Nat.le_of_ble_eq_true rfl) (Nat.le_of_ble_eq_true rfl) (Nat.le_of_ble_eq_true rfl) ?_
  refine m_J_S (S2 := (45, [some (.ref 0), none], [.ref 15, .ref 0], [.inr (7, [.ref 1, .ref 3, .ref 4, .null, .null, .null, .null, .null, .long 0, .int (nI 0), .int (nI 0), .int (nI 0), .int (nI 0), .int (nI 0)]), k_tp 2 0, k_ba 400 (fun _ => nI 0), k_rd 1 0 (-nI 1), .inr (1, [.ref 5, .ref 7, .ref 8]), k_uses 6, k_la 5 k_u0, k_ia 60 (fun _ => nI 0), k_ra 6 6 (k_arows (k_w0 5)), k_la 60 (k_arow 0), k_la 60 (k_arow 1), k_la 60 (k_arow 2), k_la 60 (k_arow 3), k_la 60 (k_arow 4), k_la 60 (k_arow 5), .inr (6, [.null])])) rfl ?_
  refine m_J_run hM 1 rfl ⟨trivial, trivial⟩ ?_
  refine m_J_callI false (as := []) (rest := [.ref 15, .ref 0]) (m_EX_warm E N xs) hM rfl kw_X8_34 rfl rfl rfl (Nat.le_of_ble_eq_true rfl) (Nat.le_of_ble_eq_true rfl) (Nat.le_of_ble_eq_true rfl) (c_uses rfl (by decide)) (fun v9 h9 tg9 hp9 => ?_)
  obtain ⟨rfl, rfl, hp9⟩ := hp9
  refine ⟨fun _ => ⟨rfl, by rw [hp9.1]; exact Nat.le_refl _⟩, ?_⟩
  have e9 := k_e_uses (by decide) hp9
  clear hp9; subst e9
  refine m_J_S (S2 := (49, [some (.ref 0), none], [.ref 15, .ref 0], [.inr (7, [.ref 1, .ref 3, .ref 4, .null, .null, .null, .null, .null, .long 0, .int (nI 0), .int (nI 0), .int (nI 0), .int (nI 0), .int (nI 0)]), k_tp 2 0, k_ba 400 (fun _ => nI 0), k_rd 1 0 (-nI 1), .inr (1, [.ref 5, .ref 7, .ref 8]), k_uses 6, k_la 5 k_u0, k_ia 60 (fun _ => nI 0), k_ra 6 6 (k_arows (k_w0 5)), k_la 60 (k_arow 0), k_la 60 (k_arow 1), k_la 60 (k_arow 2), k_la 60 (k_arow 3), k_la 60 (k_arow 4), k_la 60 (k_arow 5), k_uses 16, k_la 5 k_u0])) rfl ?_
  refine m_J_putc hM rfl rfl (rfl) (rfl) (by decide) ?_
  refine m_J_S (S2 := (52, [some (.ref 0), none], [], [.inr (7, [.ref 1, .ref 3, .ref 4, .null, .ref 15, .null, .null, .null, .long 0, .int (nI 0), .int (nI 0), .int (nI 0), .int (nI 0), .int (nI 0)]), k_tp 2 0, k_ba 400 (fun _ => nI 0), k_rd 1 0 (-nI 1), .inr (1, [.ref 5, .ref 7, .ref 8]), k_uses 6, k_la 5 k_u0, k_ia 60 (fun _ => nI 0), k_ra 6 6 (k_arows (k_w0 5)), k_la 60 (k_arow 0), k_la 60 (k_arow 1), k_la 60 (k_arow 2), k_la 60 (k_arow 3), k_la 60 (k_arow 4), k_la 60 (k_arow 5), k_uses 16, k_la 5 k_u0])) rfl ?_
  refine m_J_run hM 2 rfl ⟨trivial, trivial, trivial⟩ ?_
  refine m_J_anew (ti := 5) (K := 6) hM rfl kl_X8_32 rfl (by simp) (by decide) (by decide) (Nat.le_of_ble_eq_true rfl) (Nat.le_of_ble_eq_true rfl) (Nat.le_of_ble_eq_true rfl) (Nat.le_of_ble_eq_true rfl) ?_
  refine m_J_S (S2 := (58, [some (.ref 0), none], [.ref 17, .ref 0], [.inr (7, [.ref 1, .ref 3, .ref 4, .null, .ref 15, .null, .null, .null, .long 0, .int (nI 0), .int (nI 0), .int (nI 0), .int (nI 0), .int (nI 0)]), k_tp 2 0, k_ba 400 (fun _ => nI 0), k_rd 1 0 (-nI 1), .inr (1, [.ref 5, .ref 7, .ref 8]), k_uses 6, k_la 5 k_u0, k_ia 60 (fun _ => nI 0), k_ra 6 6 (k_arows (k_w0 5)), k_la 60 (k_arow 0), k_la 60 (k_arow 1), k_la 60 (k_arow 2), k_la 60 (k_arow 3), k_la 60 (k_arow 4), k_la 60 (k_arow 5), k_uses 16, k_la 5 k_u0, k_ra 5 6 (fun _ => none)])) rfl ?_
  refine m_J_putc hM rfl rfl (rfl) (rfl) (by decide) ?_
  refine m_J_S (S2 := (61, [some (.ref 0), none], [], [.inr (7, [.ref 1, .ref 3, .ref 4, .null, .ref 15, .ref 17, .null, .null, .long 0, .int (nI 0), .int (nI 0), .int (nI 0), .int (nI 0), .int (nI 0)]), k_tp 2 0, k_ba 400 (fun _ => nI 0), k_rd 1 0 (-nI 1), .inr (1, [.ref 5, .ref 7, .ref 8]), k_uses 6, k_la 5 k_u0, k_ia 60 (fun _ => nI 0), k_ra 6 6 (k_arows (k_w0 5)), k_la 60 (k_arow 0), k_la 60 (k_arow 1), k_la 60 (k_arow 2), k_la 60 (k_arow 3), k_la 60 (k_arow 4), k_la 60 (k_arow 5), k_uses 16, k_la 5 k_u0, k_ra 5 6 (fun _ => none)])) rfl ?_
  refine m_J_run hM 2 rfl ⟨trivial, trivial, trivial⟩ ?_
  refine m_J_S (S2 := (63, [some (.ref 0), some (.int (nI 0))], [], [.inr (7, [.ref 1, .ref 3, .ref 4, .null, .ref 15, .ref 17, .null, .null, .long 0, .int (nI 0), .int (nI 0), .int (nI 0), .int (nI 0), .int (nI 0)]), k_tp 2 0, k_ba 400 (fun _ => nI 0), k_rd 1 0 (-nI 1), .inr (1, [.ref 5, .ref 7, .ref 8]), k_uses 6, k_la 5 k_u0, k_ia 60 (fun _ => nI 0), k_ra 6 6 (k_arows (k_w0 5)), k_la 60 (k_arow 0), k_la 60 (k_arow 1), k_la 60 (k_arow 2), k_la 60 (k_arow 3), k_la 60 (k_arow 4), k_la 60 (k_arow 5), k_uses 16, k_la 5 k_u0, k_ra 5 6 (fun _ => none)])) rfl ?_
  refine m_J_run hM 3 rfl ⟨trivial, trivial, trivial, trivial⟩ ?_
  refine m_J_if (fun hc => absurd hc (by decide)) (fun _ => ?_)
  refine m_J_run hM 1 rfl ⟨trivial, trivial⟩ ?_
  refine m_J_getf hM rfl rfl (rfl) (rfl) ?_
  refine m_J_run hM 1 rfl ⟨trivial, trivial⟩ ?_
  refine m_newC (ci := 6) (K := 1) (fs := [.null]) hM rfl kn_X8_32 rfl rfl rfl (Nat.le_of_ble_eq_true rfl) (Nat.le_of_ble_eq_true rfl) (Nat.le_of_ble_eq_true rfl) ?_
  refine m_J_S (S2 := (77, [some (.ref 0), some (.int (nI 0))], [.ref 18, .int (nI 0), .ref 17], [.inr (7, [.ref 1, .ref 3, .ref 4, .null, .ref 15, .ref 17, .null, .null, .long 0, .int (nI 0), .int (nI 0), .int (nI 0), .int (nI 0), .int (nI 0)]), k_tp 2 0, k_ba 400 (fun _ => nI 0), k_rd 1 0 (-nI 1), .inr (1, [.ref 5, .ref 7, .ref 8]), k_uses 6, k_la 5 k_u0, k_ia 60 (fun _ => nI 0), k_ra 6 6 (k_arows (k_w0 5)), k_la 60 (k_arow 0), k_la 60 (k_arow 1), k_la 60 (k_arow 2), k_la 60 (k_arow 3), k_la 60 (k_arow 4), k_la 60 (k_arow 5), k_uses 16, k_la 5 k_u0, k_ra 5 6 (fun _ => none), .inr (6, [.null])])) rfl ?_
  refine m_J_run hM 1 rfl ⟨trivial, trivial⟩ ?_
  refine m_J_callI false (as := []) (rest := [.ref 18, .int (nI 0), .ref 17]) (m_EX_warm E N xs) hM rfl kw_X8_34 rfl rfl rfl (Nat.le_of_ble_eq_true rfl) (Nat.le_of_ble_eq_true rfl) (Nat.le_of_ble_eq_true rfl) (c_uses rfl (by decide)) (fun v9 h9 tg9 hp9 => ?_)
  obtain ⟨rfl, rfl, hp9⟩ := hp9
  refine ⟨fun _ => ⟨rfl, by rw [hp9.1]; exact Nat.le_refl _⟩, ?_⟩
  have e9 := k_e_uses (by decide) hp9
  clear hp9; subst e9
  refine m_J_S (S2 := (81, [some (.ref 0), some (.int (nI 0))], [.ref 18, .int (nI 0), .ref 17], [.inr (7, [.ref 1, .ref 3, .ref 4, .null, .ref 15, .ref 17, .null, .null, .long 0, .int (nI 0), .int (nI 0), .int (nI 0), .int (nI 0), .int (nI 0)]), k_tp 2 0, k_ba 400 (fun _ => nI 0), k_rd 1 0 (-nI 1), .inr (1, [.ref 5, .ref 7, .ref 8]), k_uses 6, k_la 5 k_u0, k_ia 60 (fun _ => nI 0), k_ra 6 6 (k_arows (k_w0 5)), k_la 60 (k_arow 0), k_la 60 (k_arow 1), k_la 60 (k_arow 2), k_la 60 (k_arow 3), k_la 60 (k_arow 4), k_la 60 (k_arow 5), k_uses 16, k_la 5 k_u0, k_ra 5 6 (fun _ => none), k_uses 19, k_la 5 k_u0])) rfl ?_
  refine m_aastN (ci := 6) (ti := 5) (n := 6) hM rfl rfl rfl (Or.inr ⟨rfl, rfl⟩) (by decide) (by decide) ?_
  refine m_J_run hM 2 rfl ⟨trivial, trivial, trivial⟩ ?_
  refine m_J_S (S2 := (63, [some (.ref 0), some (.int (nI 1))], [], [.inr (7, [.ref 1, .ref 3, .ref 4, .null, .ref 15, .ref 17, .null, .null, .long 0, .int (nI 0), .int (nI 0), .int (nI 0), .int (nI 0), .int (nI 0)]), k_tp 2 0, k_ba 400 (fun _ => nI 0), k_rd 1 0 (-nI 1), .inr (1, [.ref 5, .ref 7, .ref 8]), k_uses 6, k_la 5 k_u0, k_ia 60 (fun _ => nI 0), k_ra 6 6 (k_arows (k_w0 5)), k_la 60 (k_arow 0), k_la 60 (k_arow 1), k_la 60 (k_arow 2), k_la 60 (k_arow 3), k_la 60 (k_arow 4), k_la 60 (k_arow 5), k_uses 16, k_la 5 k_u0, k_ra 5 6 (va_up (fun _ => none) 0 (some 18)), k_uses 19, k_la 5 k_u0])) rfl ?_
  refine m_J_run hM 3 rfl ⟨trivial, trivial, trivial, trivial⟩ ?_
  refine m_J_if (fun hc => absurd hc (by decide)) (fun _ => ?_)
  refine m_J_run hM 1 rfl ⟨trivial, trivial⟩ ?_
  refine m_J_getf hM rfl rfl (rfl) (rfl) ?_
  refine m_J_run hM 1 rfl ⟨trivial, trivial⟩ ?_
  refine m_newC (ci := 6) (K := 1) (fs := [.null]) hM rfl kn_X8_32 rfl rfl rfl (Nat.le_of_ble_eq_true rfl) (Nat.le_of_ble_eq_true rfl) (Nat.le_of_ble_eq_true rfl) ?_
  refine m_J_S (S2 := (77, [some (.ref 0), some (.int (nI 1))], [.ref 20, .int (nI 1), .ref 17], [.inr (7, [.ref 1, .ref 3, .ref 4, .null, .ref 15, .ref 17, .null, .null, .long 0, .int (nI 0), .int (nI 0), .int (nI 0), .int (nI 0), .int (nI 0)]), k_tp 2 0, k_ba 400 (fun _ => nI 0), k_rd 1 0 (-nI 1), .inr (1, [.ref 5, .ref 7, .ref 8]), k_uses 6, k_la 5 k_u0, k_ia 60 (fun _ => nI 0), k_ra 6 6 (k_arows (k_w0 5)), k_la 60 (k_arow 0), k_la 60 (k_arow 1), k_la 60 (k_arow 2), k_la 60 (k_arow 3), k_la 60 (k_arow 4), k_la 60 (k_arow 5), k_uses 16, k_la 5 k_u0, k_ra 5 6 (va_up (fun _ => none) 0 (some 18)), k_uses 19, k_la 5 k_u0, .inr (6, [.null])])) rfl ?_
  refine m_J_run hM 1 rfl ⟨trivial, trivial⟩ ?_
  refine m_J_callI false (as := []) (rest := [.ref 20, .int (nI 1), .ref 17]) (m_EX_warm E N xs) hM rfl kw_X8_34 rfl rfl rfl (Nat.le_of_ble_eq_true rfl) (Nat.le_of_ble_eq_true rfl) (Nat.le_of_ble_eq_true rfl) (c_uses rfl (by decide)) (fun v9 h9 tg9 hp9 => ?_)
  obtain ⟨rfl, rfl, hp9⟩ := hp9
  refine ⟨fun _ => ⟨rfl, by rw [hp9.1]; exact Nat.le_refl _⟩, ?_⟩
  have e9 := k_e_uses (by decide) hp9
  clear hp9; subst e9
  refine m_J_S (S2 := (81, [some (.ref 0), some (.int (nI 1))], [.ref 20, .int (nI 1), .ref 17], [.inr (7, [.ref 1, .ref 3, .ref 4, .null, .ref 15, .ref 17, .null, .null, .long 0, .int (nI 0), .int (nI 0), .int (nI 0), .int (nI 0), .int (nI 0)]), k_tp 2 0, k_ba 400 (fun _ => nI 0), k_rd 1 0 (-nI 1), .inr (1, [.ref 5, .ref 7, .ref 8]), k_uses 6, k_la 5 k_u0, k_ia 60 (fun _ => nI 0), k_ra 6 6 (k_arows (k_w0 5)), k_la 60 (k_arow 0), k_la 60 (k_arow 1), k_la 60 (k_arow 2), k_la 60 (k_arow 3), k_la 60 (k_arow 4), k_la 60 (k_arow 5), k_uses 16, k_la 5 k_u0, k_ra 5 6 (va_up (fun _ => none) 0 (some 18)), k_uses 19, k_la 5 k_u0, k_uses 21, k_la 5 k_u0])) rfl ?_
  refine m_aastN (ci := 6) (ti := 5) (n := 6) hM rfl rfl rfl (Or.inr ⟨rfl, rfl⟩) (by decide) (by decide) ?_
  refine m_J_run hM 2 rfl ⟨trivial, trivial, trivial⟩ ?_
  refine m_J_S (S2 := (63, [some (.ref 0), some (.int (nI 2))], [], [.inr (7, [.ref 1, .ref 3, .ref 4, .null, .ref 15, .ref 17, .null, .null, .long 0, .int (nI 0), .int (nI 0), .int (nI 0), .int (nI 0), .int (nI 0)]), k_tp 2 0, k_ba 400 (fun _ => nI 0), k_rd 1 0 (-nI 1), .inr (1, [.ref 5, .ref 7, .ref 8]), k_uses 6, k_la 5 k_u0, k_ia 60 (fun _ => nI 0), k_ra 6 6 (k_arows (k_w0 5)), k_la 60 (k_arow 0), k_la 60 (k_arow 1), k_la 60 (k_arow 2), k_la 60 (k_arow 3), k_la 60 (k_arow 4), k_la 60 (k_arow 5), k_uses 16, k_la 5 k_u0, k_ra 5 6 (va_up (va_up (fun _ => none) 0 (some 18)) 1 (some 20)), k_uses 19, k_la 5 k_u0, k_uses 21, k_la 5 k_u0])) rfl ?_
  refine m_J_run hM 3 rfl ⟨trivial, trivial, trivial, trivial⟩ ?_
  refine m_J_if (fun hc => absurd hc (by decide)) (fun _ => ?_)
  refine m_J_run hM 1 rfl ⟨trivial, trivial⟩ ?_
  refine m_J_getf hM rfl rfl (rfl) (rfl) ?_
  refine m_J_run hM 1 rfl ⟨trivial, trivial⟩ ?_
  refine m_newC (ci := 6) (K := 1) (fs := [.null]) hM rfl kn_X8_32 rfl rfl rfl (Nat.le_of_ble_eq_true rfl) (Nat.le_of_ble_eq_true rfl) (Nat.le_of_ble_eq_true rfl) ?_
  refine m_J_S (S2 := (77, [some (.ref 0), some (.int (nI 2))], [.ref 22, .int (nI 2), .ref 17], [.inr (7, [.ref 1, .ref 3, .ref 4, .null, .ref 15, .ref 17, .null, .null, .long 0, .int (nI 0), .int (nI 0), .int (nI 0), .int (nI 0), .int (nI 0)]), k_tp 2 0, k_ba 400 (fun _ => nI 0), k_rd 1 0 (-nI 1), .inr (1, [.ref 5, .ref 7, .ref 8]), k_uses 6, k_la 5 k_u0, k_ia 60 (fun _ => nI 0), k_ra 6 6 (k_arows (k_w0 5)), k_la 60 (k_arow 0), k_la 60 (k_arow 1), k_la 60 (k_arow 2), k_la 60 (k_arow 3), k_la 60 (k_arow 4), k_la 60 (k_arow 5), k_uses 16, k_la 5 k_u0, k_ra 5 6 (va_up (va_up (fun _ => none) 0 (some 18)) 1 (some 20)), k_uses 19, k_la 5 k_u0, k_uses 21, k_la 5 k_u0, .inr (6, [.null])])) rfl ?_
  refine m_J_run hM 1 rfl ⟨trivial, trivial⟩ ?_
  refine m_J_callI false (as := []) (rest := [.ref 22, .int (nI 2), .ref 17]) (m_EX_warm E N xs) hM rfl kw_X8_34 rfl rfl rfl (Nat.le_of_ble_eq_true rfl) (Nat.le_of_ble_eq_true rfl) (Nat.le_of_ble_eq_true rfl) (c_uses rfl (by decide)) (fun v9 h9 tg9 hp9 => ?_)
  obtain ⟨rfl, rfl, hp9⟩ := hp9
  refine ⟨fun _ => ⟨rfl, by rw [hp9.1]; exact Nat.le_refl _⟩, ?_⟩
  have e9 := k_e_uses (by decide) hp9
  clear hp9; subst e9
  refine m_J_S (S2 := (81, [some (.ref 0), some (.int (nI 2))], [.ref 22, .int (nI 2), .ref 17], [.inr (7, [.ref 1, .ref 3, .ref 4, .null, .ref 15, .ref 17, .null, .null, .long 0, .int (nI 0), .int (nI 0), .int (nI 0), .int (nI 0), .int (nI 0)]), k_tp 2 0, k_ba 400 (fun _ => nI 0), k_rd 1 0 (-nI 1), .inr (1, [.ref 5, .ref 7, .ref 8]), k_uses 6, k_la 5 k_u0, k_ia 60 (fun _ => nI 0), k_ra 6 6 (k_arows (k_w0 5)), k_la 60 (k_arow 0), k_la 60 (k_arow 1), k_la 60 (k_arow 2), k_la 60 (k_arow 3), k_la 60 (k_arow 4), k_la 60 (k_arow 5), k_uses 16, k_la 5 k_u0, k_ra 5 6 (va_up (va_up (fun _ => none) 0 (some 18)) 1 (some 20)), k_uses 19, k_la 5 k_u0, k_uses 21, k_la 5 k_u0, k_uses 23, k_la 5 k_u0])) rfl ?_
  refine m_aastN (ci := 6) (ti := 5) (n := 6) hM rfl rfl rfl (Or.inr ⟨rfl, rfl⟩) (by decide) (by decide) ?_
  refine m_J_run hM 2 rfl ⟨trivial, trivial, trivial⟩ ?_
  refine m_J_S (S2 := (63, [some (.ref 0), some (.int (nI 3))], [], [.inr (7, [.ref 1, .ref 3, .ref 4, .null, .ref 15, .ref 17, .null, .null, .long 0, .int (nI 0), .int (nI 0), .int (nI 0), .int (nI 0), .int (nI 0)]), k_tp 2 0, k_ba 400 (fun _ => nI 0), k_rd 1 0 (-nI 1), .inr (1, [.ref 5, .ref 7, .ref 8]), k_uses 6, k_la 5 k_u0, k_ia 60 (fun _ => nI 0), k_ra 6 6 (k_arows (k_w0 5)), k_la 60 (k_arow 0), k_la 60 (k_arow 1), k_la 60 (k_arow 2), k_la 60 (k_arow 3), k_la 60 (k_arow 4), k_la 60 (k_arow 5), k_uses 16, k_la 5 k_u0, k_ra 5 6 (va_up (va_up (va_up (fun _ => none) 0 (some 18)) 1 (some 20)) 2 (some 22)), k_uses 19, k_la 5 k_u0, k_uses 21, k_la 5 k_u0, k_uses 23, k_la 5 k_u0])) rfl ?_
  refine m_J_run hM 3 rfl ⟨trivial, trivial, trivial, trivial⟩ ?_
  refine m_J_if (fun hc => absurd hc (by decide)) (fun _ => ?_)
  refine m_J_run hM 1 rfl ⟨trivial, trivial⟩ ?_
  refine m_J_getf hM rfl rfl (rfl) (rfl) ?_
  refine m_J_run hM 1 rfl ⟨trivial, trivial⟩ ?_
  refine m_newC (ci := 6) (K := 1) (fs := [.null]) hM rfl kn_X8_32 rfl rfl rfl (Nat.le_of_ble_eq_true rfl) (Nat.le_of_ble_eq_true rfl) (Nat.le_of_ble_eq_true rfl) ?_
  refine m_J_S (S2 := (77, [some (.ref 0), some (.int (nI 3))], [.ref 24, .int (nI 3), .ref 17], [.inr (7, [.ref 1, .ref 3, .ref 4, .null, .ref 15, .ref 17, .null, .null, .long 0, .int (nI 0), .int (nI 0), .int (nI 0), .int (nI 0), .int (nI 0)]), k_tp 2 0, k_ba 400 (fun _ => nI 0), k_rd 1 0 (-nI 1), .inr (1, [.ref 5, .ref 7, .ref 8]), k_uses 6, k_la 5 k_u0, k_ia 60 (fun _ => nI 0), k_ra 6 6 (k_arows (k_w0 5)), k_la 60 (k_arow 0), k_la 60 (k_arow 1), k_la 60 (k_arow 2), k_la 60 (k_arow 3), k_la 60 (k_arow 4), k_la 60 (k_arow 5), k_uses 16, k_la 5 k_u0, k_ra 5 6 (va_up (va_up (va_up (fun _ => none) 0 (some 18)) 1 (some 20)) 2 (some 22)), k_uses 19, k_la 5 k_u0, k_uses 21, k_la 5 k_u0, k_uses 23, k_la 5 k_u0, .inr (6, [.null])])) rfl ?_
  refine m_J_run hM 1 rfl ⟨trivial, trivial⟩ ?_
  refine m_J_callI false (as := []) (rest := [.ref 24, .int (nI 3), .ref 17]) (m_EX_warm E N xs) hM rfl kw_X8_34 rfl rfl rfl (Nat.le_of_ble_eq_true rfl) (Nat.le_of_ble_eq_true rfl) (Nat.le_of_ble_eq_true rfl) (c_uses rfl (by decide)) (fun v9 h9 tg9 hp9 => ?_)
  obtain ⟨rfl, rfl, hp9⟩ := hp9
  refine ⟨fun _ => ⟨rfl, by rw [hp9.1]; exact Nat.le_refl _⟩, ?_⟩
  have e9 := k_e_uses (by decide) hp9
  clear hp9; subst e9
  refine m_J_S (S2 := (81, [some (.ref 0), some (.int (nI 3))], [.ref 24, .int (nI 3), .ref 17], [.inr (7, [.ref 1, .ref 3, .ref 4, .null, .ref 15, .ref 17, .null, .null, .long 0, .int (nI 0), .int (nI 0), .int (nI 0), .int (nI 0), .int (nI 0)]), k_tp 2 0, k_ba 400 (fun _ => nI 0), k_rd 1 0 (-nI 1), .inr (1, [.ref 5, .ref 7, .ref 8]), k_uses 6, k_la 5 k_u0, k_ia 60 (fun _ => nI 0), k_ra 6 6 (k_arows (k_w0 5)), k_la 60 (k_arow 0), k_la 60 (k_arow 1), k_la 60 (k_arow 2), k_la 60 (k_arow 3), k_la 60 (k_arow 4), k_la 60 (k_arow 5), k_uses 16, k_la 5 k_u0, k_ra 5 6 (va_up (va_up (va_up (fun _ => none) 0 (some 18)) 1 (some 20)) 2 (some 22)), k_uses 19, k_la 5 k_u0, k_uses 21, k_la 5 k_u0, k_uses 23, k_la 5 k_u0, k_uses 25, k_la 5 k_u0])) rfl ?_
  refine m_aastN (ci := 6) (ti := 5) (n := 6) hM rfl rfl rfl (Or.inr ⟨rfl, rfl⟩) (by decide) (by decide) ?_
  refine m_J_run hM 2 rfl ⟨trivial, trivial, trivial⟩ ?_
  refine m_J_S (S2 := (63, [some (.ref 0), some (.int (nI 4))], [], [.inr (7, [.ref 1, .ref 3, .ref 4, .null, .ref 15, .ref 17, .null, .null, .long 0, .int (nI 0), .int (nI 0), .int (nI 0), .int (nI 0), .int (nI 0)]), k_tp 2 0, k_ba 400 (fun _ => nI 0), k_rd 1 0 (-nI 1), .inr (1, [.ref 5, .ref 7, .ref 8]), k_uses 6, k_la 5 k_u0, k_ia 60 (fun _ => nI 0), k_ra 6 6 (k_arows (k_w0 5)), k_la 60 (k_arow 0), k_la 60 (k_arow 1), k_la 60 (k_arow 2), k_la 60 (k_arow 3), k_la 60 (k_arow 4), k_la 60 (k_arow 5), k_uses 16, k_la 5 k_u0, k_ra 5 6 (va_up (va_up (va_up (va_up (fun _ => none) 0 (some 18)) 1 (some 20)) 2 (some 22)) 3 (some 24)), k_uses 19, k_la 5 k_u0, k_uses 21, k_la 5 k_u0, k_uses 23, k_la 5 k_u0, k_uses 25, k_la 5 k_u0])) rfl ?_
  refine m_J_run hM 3 rfl ⟨trivial, trivial, trivial, trivial⟩ ?_
  refine m_J_if (fun hc => absurd hc (by decide)) (fun _ => ?_)
  refine m_J_run hM 1 rfl ⟨trivial, trivial⟩ ?_
  refine m_J_getf hM rfl rfl (rfl) (rfl) ?_
  refine m_J_run hM 1 rfl ⟨trivial, trivial⟩ ?_
  refine m_newC (ci := 6) (K := 1) (fs := [.null]) hM rfl kn_X8_32 rfl rfl rfl (Nat.le_of_ble_eq_true rfl) (Nat.le_of_ble_eq_true rfl) (Nat.le_of_ble_eq_true rfl) ?_
  refine m_J_S (S2 := (77, [some (.ref 0), some (.int (nI 4))], [.ref 26, .int (nI 4), .ref 17], [.inr (7, [.ref 1, .ref 3, .ref 4, .null, .ref 15, .ref 17, .null, .null, .long 0, .int (nI 0), .int (nI 0), .int (nI 0), .int (nI 0), .int (nI 0)]), k_tp 2 0, k_ba 400 (fun _ => nI 0), k_rd 1 0 (-nI 1), .inr (1, [.ref 5, .ref 7, .ref 8]), k_uses 6, k_la 5 k_u0, k_ia 60 (fun _ => nI 0), k_ra 6 6 (k_arows (k_w0 5)), k_la 60 (k_arow 0), k_la 60 (k_arow 1), k_la 60 (k_arow 2), k_la 60 (k_arow 3), k_la 60 (k_arow 4), k_la 60 (k_arow 5), k_uses 16, k_la 5 k_u0, k_ra 5 6 (va_up (va_up (va_up (va_up (fun _ => none) 0 (some 18)) 1 (some 20)) 2 (some 22)) 3 (some 24)), k_uses 19, k_la 5 k_u0, k_uses 21, k_la 5 k_u0, k_uses 23, k_la 5 k_u0, k_uses 25, k_la 5 k_u0, .inr (6, [.null])])) rfl ?_
  refine m_J_run hM 1 rfl ⟨trivial, trivial⟩ ?_
  refine m_J_callI false (as := []) (rest := [.ref 26, .int (nI 4), .ref 17]) (m_EX_warm E N xs) hM rfl kw_X8_34 rfl rfl rfl (Nat.le_of_ble_eq_true rfl) (Nat.le_of_ble_eq_true rfl) (Nat.le_of_ble_eq_true rfl) (c_uses rfl (by decide)) (fun v9 h9 tg9 hp9 => ?_)
  obtain ⟨rfl, rfl, hp9⟩ := hp9
  refine ⟨fun _ => ⟨rfl, by rw [hp9.1]; exact Nat.le_refl _⟩, ?_⟩
  have e9 := k_e_uses (by decide) hp9
  clear hp9; subst e9
  refine m_J_S (S2 := (81, [some (.ref 0), some (.int (nI 4))], [.ref 26, .int (nI 4), .ref 17], [.inr (7, [.ref 1, .ref 3, .ref 4, .null, .ref 15, .ref 17, .null, .null, .long 0, .int (nI 0), .int (nI 0), .int (nI 0), .int (nI 0), .int (nI 0)]), k_tp 2 0, k_ba 400 (fun _ => nI 0), k_rd 1 0 (-nI 1), .inr (1, [.ref 5, .ref 7, .ref 8]), k_uses 6, k_la 5 k_u0, k_ia 60 (fun _ => nI 0), k_ra 6 6 (k_arows (k_w0 5)), k_la 60 (k_arow 0), k_la 60 (k_arow 1), k_la 60 (k_arow 2), k_la 60 (k_arow 3), k_la 60 (k_arow 4), k_la 60 (k_arow 5), k_uses 16, k_la 5 k_u0, k_ra 5 6 (va_up (va_up (va_up (va_up (fun _ => none) 0 (some 18)) 1 (some 20)) 2 (some 22)) 3 (some 24)), k_uses 19, k_la 5 k_u0, k_uses 21, k_la 5 k_u0, k_uses 23, k_la 5 k_u0, k_uses 25, k_la 5 k_u0, k_uses 27, k_la 5 k_u0])) rfl ?_
  refine m_aastN (ci := 6) (ti := 5) (n := 6) hM rfl rfl rfl (Or.inr ⟨rfl, rfl⟩) (by decide) (by decide) ?_
  refine m_J_run hM 2 rfl ⟨trivial, trivial, trivial⟩ ?_
  refine m_J_S (S2 := (63, [some (.ref 0), some (.int (nI 5))], [], [.inr (7, [.ref 1, .ref 3, .ref 4, .null, .ref 15, .ref 17, .null, .null, .long 0, .int (nI 0), .int (nI 0), .int (nI 0), .int (nI 0), .int (nI 0)]), k_tp 2 0, k_ba 400 (fun _ => nI 0), k_rd 1 0 (-nI 1), .inr (1, [.ref 5, .ref 7, .ref 8]), k_uses 6, k_la 5 k_u0, k_ia 60 (fun _ => nI 0), k_ra 6 6 (k_arows (k_w0 5)), k_la 60 (k_arow 0), k_la 60 (k_arow 1), k_la 60 (k_arow 2), k_la 60 (k_arow 3), k_la 60 (k_arow 4), k_la 60 (k_arow 5), k_uses 16, k_la 5 k_u0, k_ra 5 6 (va_up (va_up (va_up (va_up (va_up (fun _ => none) 0 (some 18)) 1 (some 20)) 2 (some 22)) 3 (some 24)) 4 (some 26)), k_uses 19, k_la 5 k_u0, k_uses 21, k_la 5 k_u0, k_uses 23, k_la 5 k_u0, k_uses 25, k_la 5 k_u0, k_uses 27, k_la 5 k_u0])) rfl ?_
  refine m_J_run hM 3 rfl ⟨trivial, trivial, trivial, trivial⟩ ?_
  refine m_J_if (fun hc => absurd hc (by decide)) (fun _ => ?_)
  refine m_J_run hM 1 rfl ⟨trivial, trivial⟩ ?_
  refine m_J_getf hM rfl rfl (rfl) (rfl) ?_
  refine m_J_run hM 1 rfl ⟨trivial, trivial⟩ ?_
  refine m_newC (ci := 6) (K := 1) (fs := [.null]) hM rfl kn_X8_32 rfl rfl rfl (Nat.le_of_ble_eq_true rfl) (Nat.le_of_ble_eq_true rfl) (Nat.le_of_ble_eq_true rfl) ?_
  refine m_J_S (S2 := (77, [some (.ref 0), some (.int (nI 5))], [.ref 28, .int (nI 5), .ref 17], [.inr (7, [.ref 1, .ref 3, .ref 4, .null, .ref 15, .ref 17, .null, .null, .long 0, .int (nI 0), .int (nI 0), .int (nI 0), .int (nI 0), .int (nI 0)]), k_tp 2 0, k_ba 400 (fun _ => nI 0), k_rd 1 0 (-nI 1), .inr (1, [.ref 5, .ref 7, .ref 8]), k_uses 6, k_la 5 k_u0, k_ia 60 (fun _ => nI 0), k_ra 6 6 (k_arows (k_w0 5)), k_la 60 (k_arow 0), k_la 60 (k_arow 1), k_la 60 (k_arow 2), k_la 60 (k_arow 3), k_la 60 (k_arow 4), k_la 60 (k_arow 5), k_uses 16, k_la 5 k_u0, k_ra 5 6 (va_up (va_up (va_up (va_up (va_up (fun _ => none) 0 (some 18)) 1 (some 20)) 2 (some 22)) 3 (some 24)) 4 (some 26)), k_uses 19, k_la 5 k_u0, k_uses 21, k_la 5 k_u0, k_uses 23, k_la 5 k_u0, k_uses 25, k_la 5 k_u0, k_uses 27, k_la 5 k_u0, .inr (6, [.null])])) rfl ?_
  refine m_J_run hM 1 rfl ⟨trivial, trivial⟩ ?_
  refine m_J_callI false (as := []) (rest := [.ref 28, .int (nI 5), .ref 17]) (m_EX_warm E N xs) hM rfl kw_X8_34 rfl rfl rfl (Nat.le_of_ble_eq_true rfl) (Nat.le_of_ble_eq_true rfl) (Nat.le_of_ble_eq_true rfl) (c_uses rfl (by decide)) (fun v9 h9 tg9 hp9 => ?_)
  obtain ⟨rfl, rfl, hp9⟩ := hp9
  refine ⟨fun _ => ⟨rfl, by rw [hp9.1]; exact Nat.le_refl _⟩, ?_⟩
  have e9 := k_e_uses (by decide) hp9
  clear hp9; subst e9
  refine m_J_S (S2 := (81, [some (.ref 0), some (.int (nI 5))], [.ref 28, .int (nI 5), .ref 17], [.inr (7, [.ref 1, .ref 3, .ref 4, .null, .ref 15, .ref 17, .null, .null, .long 0, .int (nI 0), .int (nI 0), .int (nI 0), .int (nI 0), .int (nI 0)]), k_tp 2 0, k_ba 400 (fun _ => nI 0), k_rd 1 0 (-nI 1), .inr (1, [.ref 5, .ref 7, .ref 8]), k_uses 6, k_la 5 k_u0, k_ia 60 (fun _ => nI 0), k_ra 6 6 (k_arows (k_w0 5)), k_la 60 (k_arow 0), k_la 60 (k_arow 1), k_la 60 (k_arow 2), k_la 60 (k_arow 3), k_la 60 (k_arow 4), k_la 60 (k_arow 5), k_uses 16, k_la 5 k_u0, k_ra 5 6 (va_up (va_up (va_up (va_up (va_up (fun _ => none) 0 (some 18)) 1 (some 20)) 2 (some 22)) 3 (some 24)) 4 (some 26)), k_uses 19, k_la 5 k_u0, k_uses 21, k_la 5 k_u0, k_uses 23, k_la 5 k_u0, k_uses 25, k_la 5 k_u0, k_uses 27, k_la 5 k_u0, k_uses 29, k_la 5 k_u0])) rfl ?_
  refine m_aastN (ci := 6) (ti := 5) (n := 6) hM rfl rfl rfl (Or.inr ⟨rfl, rfl⟩) (by decide) (by decide) ?_
  refine m_J_run hM 2 rfl ⟨trivial, trivial, trivial⟩ ?_
  refine m_J_S (S2 := (63, [some (.ref 0), some (.int (nI 6))], [], [.inr (7, [.ref 1, .ref 3, .ref 4, .null, .ref 15, .ref 17, .null, .null, .long 0, .int (nI 0), .int (nI 0), .int (nI 0), .int (nI 0), .int (nI 0)]), k_tp 2 0, k_ba 400 (fun _ => nI 0), k_rd 1 0 (-nI 1), .inr (1, [.ref 5, .ref 7, .ref 8]), k_uses 6, k_la 5 k_u0, k_ia 60 (fun _ => nI 0), k_ra 6 6 (k_arows (k_w0 5)), k_la 60 (k_arow 0), k_la 60 (k_arow 1), k_la 60 (k_arow 2), k_la 60 (k_arow 3), k_la 60 (k_arow 4), k_la 60 (k_arow 5), k_uses 16, k_la 5 k_u0, k_ra 5 6 (va_up (va_up (va_up (va_up (va_up (va_up (fun _ => none) 0 (some 18)) 1 (some 20)) 2 (some 22)) 3 (some 24)) 4 (some 26)) 5 (some 28)), k_uses 19, k_la 5 k_u0, k_uses 21, k_la 5 k_u0, k_uses 23, k_la 5 k_u0, k_uses 25, k_la 5 k_u0, k_uses 27, k_la 5 k_u0, k_uses 29, k_la 5 k_u0])) rfl ?_
  refine m_J_run hM 3 rfl ⟨trivial, trivial, trivial, trivial⟩ ?_
  refine m_J_if (fun _ => ?_) (fun hc => absurd (by decide) hc)
  refine m_J_run hM 1 rfl ⟨trivial, trivial⟩ ?_
  refine m_newC (ci := 0) (K := 2) (fs := [.null, .int (nI 0)]) hM rfl kn_X8_43 rfl rfl rfl (Nat.le_of_ble_eq_true rfl) (Nat.le_of_ble_eq_true rfl) (Nat.le_of_ble_eq_true rfl) ?_
  refine m_J_S (S2 := (92, [some (.ref 0), some (.int (nI 6))], [.ref 30, .ref 0], [.inr (7, [.ref 1, .ref 3, .ref 4, .null, .ref 15, .ref 17, .null, .null, .long 0, .int (nI 0), .int (nI 0), .int (nI 0), .int (nI 0), .int (nI 0)]), k_tp 2 0, k_ba 400 (fun _ => nI 0), k_rd 1 0 (-nI 1), .inr (1, [.ref 5, .ref 7, .ref 8]), k_uses 6, k_la 5 k_u0, k_ia 60 (fun _ => nI 0), k_ra 6 6 (k_arows (k_w0 5)), k_la 60 (k_arow 0), k_la 60 (k_arow 1), k_la 60 (k_arow 2), k_la 60 (k_arow 3), k_la 60 (k_arow 4), k_la 60 (k_arow 5), k_uses 16, k_la 5 k_u0, k_ra 5 6 (va_up (va_up (va_up (va_up (va_up (va_up (fun _ => none) 0 (some 18)) 1 (some 20)) 2 (some 22)) 3 (some 24)) 4 (some 26)) 5 (some 28)), k_uses 19, k_la 5 k_u0, k_uses 21, k_la 5 k_u0, k_uses 23, k_la 5 k_u0, k_uses 25, k_la 5 k_u0, k_uses 27, k_la 5 k_u0, k_uses 29, k_la 5 k_u0, .inr (0, [.null, .int (nI 0)])])) rfl ?_
  refine m_J_run hM 1 rfl ⟨trivial, trivial⟩ ?_
  refine m_J_callI false (as := []) (rest := [.ref 30, .ref 0]) (m_EX_warm E N xs) hM rfl kw_X8_45 rfl rfl rfl (Nat.le_of_ble_eq_true rfl) (Nat.le_of_ble_eq_true rfl) (Nat.le_of_ble_eq_true rfl) (c_book rfl (by decide)) (fun v9 h9 tg9 hp9 => ?_)
  obtain ⟨rfl, rfl, hp9⟩ := hp9
  refine ⟨fun _ => ⟨rfl, by rw [hp9.1]; exact Nat.le_refl _⟩, ?_⟩
  have e9 := k_e_book (by decide) hp9
  clear hp9; subst e9
  refine m_J_S (S2 := (96, [some (.ref 0), some (.int (nI 6))], [.ref 30, .ref 0], [.inr (7, [.ref 1, .ref 3, .ref 4, .null, .ref 15, .ref 17, .null, .null, .long 0, .int (nI 0), .int (nI 0), .int (nI 0), .int (nI 0), .int (nI 0)]), k_tp 2 0, k_ba 400 (fun _ => nI 0), k_rd 1 0 (-nI 1), .inr (1, [.ref 5, .ref 7, .ref 8]), k_uses 6, k_la 5 k_u0, k_ia 60 (fun _ => nI 0), k_ra 6 6 (k_arows (k_w0 5)), k_la 60 (k_arow 0), k_la 60 (k_arow 1), k_la 60 (k_arow 2), k_la 60 (k_arow 3), k_la 60 (k_arow 4), k_la 60 (k_arow 5), k_uses 16, k_la 5 k_u0, k_ra 5 6 (va_up (va_up (va_up (va_up (va_up (va_up (fun _ => none) 0 (some 18)) 1 (some 20)) 2 (some 22)) 3 (some 24)) 4 (some 26)) 5 (some 28)), k_uses 19, k_la 5 k_u0, k_uses 21, k_la 5 k_u0, k_uses 23, k_la 5 k_u0, k_uses 25, k_la 5 k_u0, k_uses 27, k_la 5 k_u0, k_uses 29, k_la 5 k_u0, .inr (0, [.ref 31, .int (nI 0)]), k_ra 4 14 (k_rws (fun i => 31 + 1 + i)), k_ln k_q0, k_ln k_q0, k_ln k_q0, k_ln k_q0, k_ln k_q0, k_ln k_q0, k_ln k_q0, k_ln k_q0, k_ln k_q0, k_ln k_q0, k_ln k_q0, k_ln k_q0, k_ln k_q0, k_ln k_q0])) rfl ?_
  refine m_J_putc hM rfl rfl (rfl) (rfl) (by decide) ?_
  refine m_J_S (S2 := (99, [some (.ref 0), some (.int (nI 6))], [], [.inr (7, [.ref 1, .ref 3, .ref 4, .null, .ref 15, .ref 17, .ref 30, .null, .long 0, .int (nI 0), .int (nI 0), .int (nI 0), .int (nI 0), .int (nI 0)]), k_tp 2 0, k_ba 400 (fun _ => nI 0), k_rd 1 0 (-nI 1), .inr (1, [.ref 5, .ref 7, .ref 8]), k_uses 6, k_la 5 k_u0, k_ia 60 (fun _ => nI 0), k_ra 6 6 (k_arows (k_w0 5)), k_la 60 (k_arow 0), k_la 60 (k_arow 1), k_la 60 (k_arow 2), k_la 60 (k_arow 3), k_la 60 (k_arow 4), k_la 60 (k_arow 5), k_uses 16, k_la 5 k_u0, k_ra 5 6 (va_up (va_up (va_up (va_up (va_up (va_up (fun _ => none) 0 (some 18)) 1 (some 20)) 2 (some 22)) 3 (some 24)) 4 (some 26)) 5 (some 28)), k_uses 19, k_la 5 k_u0, k_uses 21, k_la 5 k_u0, k_uses 23, k_la 5 k_u0, k_uses 25, k_la 5 k_u0, k_uses 27, k_la 5 k_u0, k_uses 29, k_la 5 k_u0, .inr (0, [.ref 31, .int (nI 0)]), k_ra 4 14 (k_rws (fun i => 31 + 1 + i)), k_ln k_q0, k_ln k_q0, k_ln k_q0, k_ln k_q0, k_ln k_q0, k_ln k_q0, k_ln k_q0, k_ln k_q0, k_ln k_q0, k_ln k_q0, k_ln k_q0, k_ln k_q0, k_ln k_q0, k_ln k_q0])) rfl ?_
  refine m_J_run hM 1 rfl ⟨trivial, trivial⟩ ?_
  refine m_newC (ci := 0) (K := 2) (fs := [.null, .int (nI 0)]) hM rfl kn_X8_43 rfl rfl rfl (Nat.le_of_ble_eq_true rfl) (Nat.le_of_ble_eq_true rfl) (Nat.le_of_ble_eq_true rfl) ?_
  refine m_J_S (S2 := (103, [some (.ref 0), some (.int (nI 6))], [.ref 46, .ref 0], [.inr (7, [.ref 1, .ref 3, .ref 4, .null, .ref 15, .ref 17, .ref 30, .null, .long 0, .int (nI 0), .int (nI 0), .int (nI 0), .int (nI 0), .int (nI 0)]), k_tp 2 0, k_ba 400 (fun _ => nI 0), k_rd 1 0 (-nI 1), .inr (1, [.ref 5, .ref 7, .ref 8]), k_uses 6, k_la 5 k_u0, k_ia 60 (fun _ => nI 0), k_ra 6 6 (k_arows (k_w0 5)), k_la 60 (k_arow 0), k_la 60 (k_arow 1), k_la 60 (k_arow 2), k_la 60 (k_arow 3), k_la 60 (k_arow 4), k_la 60 (k_arow 5), k_uses 16, k_la 5 k_u0, k_ra 5 6 (va_up (va_up (va_up (va_up (va_up (va_up (fun _ => none) 0 (some 18)) 1 (some 20)) 2 (some 22)) 3 (some 24)) 4 (some 26)) 5 (some 28)), k_uses 19, k_la 5 k_u0, k_uses 21, k_la 5 k_u0, k_uses 23, k_la 5 k_u0, k_uses 25, k_la 5 k_u0, k_uses 27, k_la 5 k_u0, k_uses 29, k_la 5 k_u0, .inr (0, [.ref 31, .int (nI 0)]), k_ra 4 14 (k_rws (fun i => 31 + 1 + i)), k_ln k_q0, k_ln k_q0, k_ln k_q0, k_ln k_q0, k_ln k_q0, k_ln k_q0, k_ln k_q0, k_ln k_q0, k_ln k_q0, k_ln k_q0, k_ln k_q0, k_ln k_q0, k_ln k_q0, k_ln k_q0, .inr (0, [.null, .int (nI 0)])])) rfl ?_
  refine m_J_run hM 1 rfl ⟨trivial, trivial⟩ ?_
  refine m_J_callI false (as := []) (rest := [.ref 46, .ref 0]) (m_EX_warm E N xs) hM rfl kw_X8_45 rfl rfl rfl (Nat.le_of_ble_eq_true rfl) (Nat.le_of_ble_eq_true rfl) (Nat.le_of_ble_eq_true rfl) (c_book rfl (by decide)) (fun v9 h9 tg9 hp9 => ?_)
  obtain ⟨rfl, rfl, hp9⟩ := hp9
  refine ⟨fun _ => ⟨rfl, by rw [hp9.1]; exact Nat.le_refl _⟩, ?_⟩
  have e9 := k_e_book (by decide) hp9
  clear hp9; subst e9
  refine m_J_S (S2 := (107, [some (.ref 0), some (.int (nI 6))], [.ref 46, .ref 0], [.inr (7, [.ref 1, .ref 3, .ref 4, .null, .ref 15, .ref 17, .ref 30, .null, .long 0, .int (nI 0), .int (nI 0), .int (nI 0), .int (nI 0), .int (nI 0)]), k_tp 2 0, k_ba 400 (fun _ => nI 0), k_rd 1 0 (-nI 1), .inr (1, [.ref 5, .ref 7, .ref 8]), k_uses 6, k_la 5 k_u0, k_ia 60 (fun _ => nI 0), k_ra 6 6 (k_arows (k_w0 5)), k_la 60 (k_arow 0), k_la 60 (k_arow 1), k_la 60 (k_arow 2), k_la 60 (k_arow 3), k_la 60 (k_arow 4), k_la 60 (k_arow 5), k_uses 16, k_la 5 k_u0, k_ra 5 6 (va_up (va_up (va_up (va_up (va_up (va_up (fun _ => none) 0 (some 18)) 1 (some 20)) 2 (some 22)) 3 (some 24)) 4 (some 26)) 5 (some 28)), k_uses 19, k_la 5 k_u0, k_uses 21, k_la 5 k_u0, k_uses 23, k_la 5 k_u0, k_uses 25, k_la 5 k_u0, k_uses 27, k_la 5 k_u0, k_uses 29, k_la 5 k_u0, .inr (0, [.ref 31, .int (nI 0)]), k_ra 4 14 (k_rws (fun i => 31 + 1 + i)), k_ln k_q0, k_ln k_q0, k_ln k_q0, k_ln k_q0, k_ln k_q0, k_ln k_q0, k_ln k_q0, k_ln k_q0, k_ln k_q0, k_ln k_q0, k_ln k_q0, k_ln k_q0, k_ln k_q0, k_ln k_q0, .inr (0, [.ref 47, .int (nI 0)]), k_ra 4 14 (k_rws (fun i => 47 + 1 + i)), k_ln k_q0, k_ln k_q0, k_ln k_q0, k_ln k_q0, k_ln k_q0, k_ln k_q0, k_ln k_q0, k_ln k_q0, k_ln k_q0, k_ln k_q0, k_ln k_q0, k_ln k_q0, k_ln k_q0, k_ln k_q0])) rfl ?_
  refine m_J_putc hM rfl rfl (rfl) (rfl) (by decide) ?_
  refine m_J_S (S2 := (110, [some (.ref 0), some (.int (nI 6))], [], [.inr (7, [.ref 1, .ref 3, .ref 4, .null, .ref 15, .ref 17, .ref 30, .ref 46, .long 0, .int (nI 0), .int (nI 0), .int (nI 0), .int (nI 0), .int (nI 0)]), k_tp 2 0, k_ba 400 (fun _ => nI 0), k_rd 1 0 (-nI 1), .inr (1, [.ref 5, .ref 7, .ref 8]), k_uses 6, k_la 5 k_u0, k_ia 60 (fun _ => nI 0), k_ra 6 6 (k_arows (k_w0 5)), k_la 60 (k_arow 0), k_la 60 (k_arow 1), k_la 60 (k_arow 2), k_la 60 (k_arow 3), k_la 60 (k_arow 4), k_la 60 (k_arow 5), k_uses 16, k_la 5 k_u0, k_ra 5 6 (va_up (va_up (va_up (va_up (va_up (va_up (fun _ => none) 0 (some 18)) 1 (some 20)) 2 (some 22)) 3 (some 24)) 4 (some 26)) 5 (some 28)), k_uses 19, k_la 5 k_u0, k_uses 21, k_la 5 k_u0, k_uses 23, k_la 5 k_u0, k_uses 25, k_la 5 k_u0, k_uses 27, k_la 5 k_u0, k_uses 29, k_la 5 k_u0, .inr (0, [.ref 31, .int (nI 0)]), k_ra 4 14 (k_rws (fun i => 31 + 1 + i)), k_ln k_q0, k_ln k_q0, k_ln k_q0, k_ln k_q0, k_ln k_q0, k_ln k_q0, k_ln k_q0, k_ln k_q0, k_ln k_q0, k_ln k_q0, k_ln k_q0, k_ln k_q0, k_ln k_q0, k_ln k_q0, .inr (0, [.ref 47, .int (nI 0)]), k_ra 4 14 (k_rws (fun i => 47 + 1 + i)), k_ln k_q0, k_ln k_q0, k_ln k_q0, k_ln k_q0, k_ln k_q0, k_ln k_q0, k_ln k_q0, k_ln k_q0, k_ln k_q0, k_ln k_q0, k_ln k_q0, k_ln k_q0, k_ln k_q0, k_ln k_q0])) rfl ?_
  refine m_J_run hM 1 rfl ⟨trivial, trivial⟩ ?_
  refine m_newC (ci := 4) (K := 8) (fs := [.null, .null, .null, .null, .null, .int (nI 0), .int (nI 0), .int (nI 0)]) hM rfl kn_X8_53 rfl rfl rfl (Nat.le_of_ble_eq_true rfl) (Nat.le_of_ble_eq_true rfl) (Nat.le_of_ble_eq_true rfl) ?_
  refine m_J_S (S2 := (114, [some (.ref 0), some (.int (nI 6))], [.ref 62, .ref 0], [.inr (7, [.ref 1, .ref 3, .ref 4, .null, .ref 15, .ref 17, .ref 30, .ref 46, .long 0, .int (nI 0), .int (nI 0), .int (nI 0), .int (nI 0), .int (nI 0)]), k_tp 2 0, k_ba 400 (fun _ => nI 0), k_rd 1 0 (-nI 1), .inr (1, [.ref 5, .ref 7, .ref 8]), k_uses 6, k_la 5 k_u0, k_ia 60 (fun _ => nI 0), k_ra 6 6 (k_arows (k_w0 5)), k_la 60 (k_arow 0), k_la 60 (k_arow 1), k_la 60 (k_arow 2), k_la 60 (k_arow 3), k_la 60 (k_arow 4), k_la 60 (k_arow 5), k_uses 16, k_la 5 k_u0, k_ra 5 6 (va_up (va_up (va_up (va_up (va_up (va_up (fun _ => none) 0 (some 18)) 1 (some 20)) 2 (some 22)) 3 (some 24)) 4 (some 26)) 5 (some 28)), k_uses 19, k_la 5 k_u0, k_uses 21, k_la 5 k_u0, k_uses 23, k_la 5 k_u0, k_uses 25, k_la 5 k_u0, k_uses 27, k_la 5 k_u0, k_uses 29, k_la 5 k_u0, .inr (0, [.ref 31, .int (nI 0)]), k_ra 4 14 (k_rws (fun i => 31 + 1 + i)), k_ln k_q0, k_ln k_q0, k_ln k_q0, k_ln k_q0, k_ln k_q0, k_ln k_q0, k_ln k_q0, k_ln k_q0, k_ln k_q0, k_ln k_q0, k_ln k_q0, k_ln k_q0, k_ln k_q0, k_ln k_q0, .inr (0, [.ref 47, .int (nI 0)]), k_ra 4 14 (k_rws (fun i => 47 + 1 + i)), k_ln k_q0, k_ln k_q0, k_ln k_q0, k_ln k_q0, k_ln k_q0, k_ln k_q0, k_ln k_q0, k_ln k_q0, k_ln k_q0, k_ln k_q0, k_ln k_q0, k_ln k_q0, k_ln k_q0, k_ln k_q0, .inr (4, [.null, .null, .null, .null, .null, .int (nI 0), .int (nI 0), .int (nI 0)])])) rfl ?_
  refine m_J_run hM 2 rfl ⟨trivial, trivial, trivial⟩ ?_
  refine m_J_getf hM rfl rfl (rfl) (rfl) ?_
  refine m_J_run hM 1 rfl ⟨trivial, trivial⟩ ?_
  refine m_J_getf hM rfl rfl (rfl) (rfl) ?_
  refine m_callI false (as := [.ref 4, .ref 30]) (rest := [.ref 62, .ref 0]) (m_EX_warm E N xs) hM rfl kw_X8_55 rfl rfl (c_search rfl rfl (by decide)) rfl (Nat.le_of_ble_eq_true rfl) (Nat.le_of_ble_eq_true rfl) (Nat.le_of_ble_eq_true rfl) (fun _ => ⟨rfl, by decide⟩) ?_
  refine m_J_S (S2 := (126, [some (.ref 0), some (.int (nI 6))], [.ref 62, .ref 0], [.inr (7, [.ref 1, .ref 3, .ref 4, .null, .ref 15, .ref 17, .ref 30, .ref 46, .long 0, .int (nI 0), .int (nI 0), .int (nI 0), .int (nI 0), .int (nI 0)]), k_tp 2 0, k_ba 400 (fun _ => nI 0), k_rd 1 0 (-nI 1), .inr (1, [.ref 5, .ref 7, .ref 8]), k_uses 6, k_la 5 k_u0, k_ia 60 (fun _ => nI 0), k_ra 6 6 (k_arows (k_w0 5)), k_la 60 (k_arow 0), k_la 60 (k_arow 1), k_la 60 (k_arow 2), k_la 60 (k_arow 3), k_la 60 (k_arow 4), k_la 60 (k_arow 5), k_uses 16, k_la 5 k_u0, k_ra 5 6 (va_up (va_up (va_up (va_up (va_up (va_up (fun _ => none) 0 (some 18)) 1 (some 20)) 2 (some 22)) 3 (some 24)) 4 (some 26)) 5 (some 28)), k_uses 19, k_la 5 k_u0, k_uses 21, k_la 5 k_u0, k_uses 23, k_la 5 k_u0, k_uses 25, k_la 5 k_u0, k_uses 27, k_la 5 k_u0, k_uses 29, k_la 5 k_u0, .inr (0, [.ref 31, .int (nI 0)]), k_ra 4 14 (k_rws (fun i => 31 + 1 + i)), k_ln k_q0, k_ln k_q0, k_ln k_q0, k_ln k_q0, k_ln k_q0, k_ln k_q0, k_ln k_q0, k_ln k_q0, k_ln k_q0, k_ln k_q0, k_ln k_q0, k_ln k_q0, k_ln k_q0, k_ln k_q0, .inr (0, [.ref 47, .int (nI 0)]), k_ra 4 14 (k_rws (fun i => 47 + 1 + i)), k_ln k_q0, k_ln k_q0, k_ln k_q0, k_ln k_q0, k_ln k_q0, k_ln k_q0, k_ln k_q0, k_ln k_q0, k_ln k_q0, k_ln k_q0, k_ln k_q0, k_ln k_q0, k_ln k_q0, k_ln k_q0, k_so 63 66 67 69 30 0 false (nI 0), .inr (1, [.ref 64, .ref 7, .ref 8]), k_uses 65, k_la 5 k_u0, k_ia 5 (fun _ => nI 0), k_uses 68, k_la 5 k_u0, k_ia 14 (fun _ => nI 0)])) rfl ?_
  refine m_J_putc hM rfl rfl (rfl) (rfl) (by decide) ?_
  refine m_J_S (S2 := (129, [some (.ref 0), some (.int (nI 6))], [], [.inr (7, [.ref 1, .ref 3, .ref 4, .ref 62, .ref 15, .ref 17, .ref 30, .ref 46, .long 0, .int (nI 0), .int (nI 0), .int (nI 0), .int (nI 0), .int (nI 0)]), k_tp 2 0, k_ba 400 (fun _ => nI 0), k_rd 1 0 (-nI 1), .inr (1, [.ref 5, .ref 7, .ref 8]), k_uses 6, k_la 5 k_u0, k_ia 60 (fun _ => nI 0), k_ra 6 6 (k_arows (k_w0 5)), k_la 60 (k_arow 0), k_la 60 (k_arow 1), k_la 60 (k_arow 2), k_la 60 (k_arow 3), k_la 60 (k_arow 4), k_la 60 (k_arow 5), k_uses 16, k_la 5 k_u0, k_ra 5 6 (va_up (va_up (va_up (va_up (va_up (va_up (fun _ => none) 0 (some 18)) 1 (some 20)) 2 (some 22)) 3 (some 24)) 4 (some 26)) 5 (some 28)), k_uses 19, k_la 5 k_u0, k_uses 21, k_la 5 k_u0, k_uses 23, k_la 5 k_u0, k_uses 25, k_la 5 k_u0, k_uses 27, k_la 5 k_u0, k_uses 29, k_la 5 k_u0, .inr (0, [.ref 31, .int (nI 0)]), k_ra 4 14 (k_rws (fun i => 31 + 1 + i)), k_ln k_q0, k_ln k_q0, k_ln k_q0, k_ln k_q0, k_ln k_q0, k_ln k_q0, k_ln k_q0, k_ln k_q0, k_ln k_q0, k_ln k_q0, k_ln k_q0, k_ln k_q0, k_ln k_q0, k_ln k_q0, .inr (0, [.ref 47, .int (nI 0)]), k_ra 4 14 (k_rws (fun i => 47 + 1 + i)), k_ln k_q0, k_ln k_q0, k_ln k_q0, k_ln k_q0, k_ln k_q0, k_ln k_q0, k_ln k_q0, k_ln k_q0, k_ln k_q0, k_ln k_q0, k_ln k_q0, k_ln k_q0, k_ln k_q0, k_ln k_q0, k_so 63 66 67 69 30 0 false (nI 0), .inr (1, [.ref 64, .ref 7, .ref 8]), k_uses 65, k_la 5 k_u0, k_ia 5 (fun _ => nI 0), k_uses 68, k_la 5 k_u0, k_ia 14 (fun _ => nI 0)])) rfl ?_
  refine m_J_run hM 2 rfl ⟨trivial, trivial, trivial⟩ ?_
  refine m_J_putc hM rfl rfl (rfl) (rfl) (by decide) ?_
  refine m_J_S (S2 := (134, [some (.ref 0), some (.int (nI 6))], [], [.inr (7, [.ref 1, .ref 3, .ref 4, .ref 62, .ref 15, .ref 17, .ref 30, .ref 46, .long 0, .int (nI 0), .int (nI 0), .int (nI 0), .int (nI 0), .int (nI 0)]), k_tp 2 0, k_ba 400 (fun _ => nI 0), k_rd 1 0 (-nI 1), .inr (1, [.ref 5, .ref 7, .ref 8]), k_uses 6, k_la 5 k_u0, k_ia 60 (fun _ => nI 0), k_ra 6 6 (k_arows (k_w0 5)), k_la 60 (k_arow 0), k_la 60 (k_arow 1), k_la 60 (k_arow 2), k_la 60 (k_arow 3), k_la 60 (k_arow 4), k_la 60 (k_arow 5), k_uses 16, k_la 5 k_u0, k_ra 5 6 (va_up (va_up (va_up (va_up (va_up (va_up (fun _ => none) 0 (some 18)) 1 (some 20)) 2 (some 22)) 3 (some 24)) 4 (some 26)) 5 (some 28)), k_uses 19, k_la 5 k_u0, k_uses 21, k_la 5 k_u0, k_uses 23, k_la 5 k_u0, k_uses 25, k_la 5 k_u0, k_uses 27, k_la 5 k_u0, k_uses 29, k_la 5 k_u0, .inr (0, [.ref 31, .int (nI 0)]), k_ra 4 14 (k_rws (fun i => 31 + 1 + i)), k_ln k_q0, k_ln k_q0, k_ln k_q0, k_ln k_q0, k_ln k_q0, k_ln k_q0, k_ln k_q0, k_ln k_q0, k_ln k_q0, k_ln k_q0, k_ln k_q0, k_ln k_q0, k_ln k_q0, k_ln k_q0, .inr (0, [.ref 47, .int (nI 0)]), k_ra 4 14 (k_rws (fun i => 47 + 1 + i)), k_ln k_q0, k_ln k_q0, k_ln k_q0, k_ln k_q0, k_ln k_q0, k_ln k_q0, k_ln k_q0, k_ln k_q0, k_ln k_q0, k_ln k_q0, k_ln k_q0, k_ln k_q0, k_ln k_q0, k_ln k_q0, k_so 63 66 67 69 30 0 false (nI 0), .inr (1, [.ref 64, .ref 7, .ref 8]), k_uses 65, k_la 5 k_u0, k_ia 5 (fun _ => nI 0), k_uses 68, k_la 5 k_u0, k_ia 14 (fun _ => nI 0)])) rfl ?_
  refine m_J_run hM 2 rfl ⟨trivial, trivial, trivial⟩ ?_
  refine m_J_putc hM rfl rfl (rfl) (rfl) (by decide) ?_
  refine m_J_S (S2 := (139, [some (.ref 0), some (.int (nI 6))], [], [.inr (7, [.ref 1, .ref 3, .ref 4, .ref 62, .ref 15, .ref 17, .ref 30, .ref 46, .long 0, .int (nI 0), .int (nI 0), .int (nI 0), .int (nI 0), .int (nI 0)]), k_tp 2 0, k_ba 400 (fun _ => nI 0), k_rd 1 0 (-nI 1), .inr (1, [.ref 5, .ref 7, .ref 8]), k_uses 6, k_la 5 k_u0, k_ia 60 (fun _ => nI 0), k_ra 6 6 (k_arows (k_w0 5)), k_la 60 (k_arow 0), k_la 60 (k_arow 1), k_la 60 (k_arow 2), k_la 60 (k_arow 3), k_la 60 (k_arow 4), k_la 60 (k_arow 5), k_uses 16, k_la 5 k_u0, k_ra 5 6 (va_up (va_up (va_up (va_up (va_up (va_up (fun _ => none) 0 (some 18)) 1 (some 20)) 2 (some 22)) 3 (some 24)) 4 (some 26)) 5 (some 28)), k_uses 19, k_la 5 k_u0, k_uses 21, k_la 5 k_u0, k_uses 23, k_la 5 k_u0, k_uses 25, k_la 5 k_u0, k_uses 27, k_la 5 k_u0, k_uses 29, k_la 5 k_u0, .inr (0, [.ref 31, .int (nI 0)]), k_ra 4 14 (k_rws (fun i => 31 + 1 + i)), k_ln k_q0, k_ln k_q0, k_ln k_q0, k_ln k_q0, k_ln k_q0, k_ln k_q0, k_ln k_q0, k_ln k_q0, k_ln k_q0, k_ln k_q0, k_ln k_q0, k_ln k_q0, k_ln k_q0, k_ln k_q0, .inr (0, [.ref 47, .int (nI 0)]), k_ra 4 14 (k_rws (fun i => 47 + 1 + i)), k_ln k_q0, k_ln k_q0, k_ln k_q0, k_ln k_q0, k_ln k_q0, k_ln k_q0, k_ln k_q0, k_ln k_q0, k_ln k_q0, k_ln k_q0, k_ln k_q0, k_ln k_q0, k_ln k_q0, k_ln k_q0, k_so 63 66 67 69 30 0 false (nI 0), .inr (1, [.ref 64, .ref 7, .ref 8]), k_uses 65, k_la 5 k_u0, k_ia 5 (fun _ => nI 0), k_uses 68, k_la 5 k_u0, k_ia 14 (fun _ => nI 0)])) rfl ?_
  refine m_J_run hM 2 rfl ⟨trivial, trivial, trivial⟩ ?_
  refine m_J_putc hM rfl rfl (rfl) (rfl) (by decide) ?_
  refine m_J_S (S2 := (144, [some (.ref 0), some (.int (nI 6))], [], [.inr (7, [.ref 1, .ref 3, .ref 4, .ref 62, .ref 15, .ref 17, .ref 30, .ref 46, .long 0, .int (nI 0), .int (nI 0), .int (nI 0), .int (nI 0), .int (nI 0)]), k_tp 2 0, k_ba 400 (fun _ => nI 0), k_rd 1 0 (-nI 1), .inr (1, [.ref 5, .ref 7, .ref 8]), k_uses 6, k_la 5 k_u0, k_ia 60 (fun _ => nI 0), k_ra 6 6 (k_arows (k_w0 5)), k_la 60 (k_arow 0), k_la 60 (k_arow 1), k_la 60 (k_arow 2), k_la 60 (k_arow 3), k_la 60 (k_arow 4), k_la 60 (k_arow 5), k_uses 16, k_la 5 k_u0, k_ra 5 6 (va_up (va_up (va_up (va_up (va_up (va_up (fun _ => none) 0 (some 18)) 1 (some 20)) 2 (some 22)) 3 (some 24)) 4 (some 26)) 5 (some 28)), k_uses 19, k_la 5 k_u0, k_uses 21, k_la 5 k_u0, k_uses 23, k_la 5 k_u0, k_uses 25, k_la 5 k_u0, k_uses 27, k_la 5 k_u0, k_uses 29, k_la 5 k_u0, .inr (0, [.ref 31, .int (nI 0)]), k_ra 4 14 (k_rws (fun i => 31 + 1 + i)), k_ln k_q0, k_ln k_q0, k_ln k_q0, k_ln k_q0, k_ln k_q0, k_ln k_q0, k_ln k_q0, k_ln k_q0, k_ln k_q0, k_ln k_q0, k_ln k_q0, k_ln k_q0, k_ln k_q0, k_ln k_q0, .inr (0, [.ref 47, .int (nI 0)]), k_ra 4 14 (k_rws (fun i => 47 + 1 + i)), k_ln k_q0, k_ln k_q0, k_ln k_q0, k_ln k_q0, k_ln k_q0, k_ln k_q0, k_ln k_q0, k_ln k_q0, k_ln k_q0, k_ln k_q0, k_ln k_q0, k_ln k_q0, k_ln k_q0, k_ln k_q0, k_so 63 66 67 69 30 0 false (nI 0), .inr (1, [.ref 64, .ref 7, .ref 8]), k_uses 65, k_la 5 k_u0, k_ia 5 (fun _ => nI 0), k_uses 68, k_la 5 k_u0, k_ia 14 (fun _ => nI 0)])) rfl ?_
  refine m_J_run hM 2 rfl ⟨trivial, trivial, trivial⟩ ?_
  refine m_J_putc hM rfl rfl (rfl) (rfl) (by decide) ?_
  refine m_J_S (S2 := (149, [some (.ref 0), some (.int (nI 6))], [], [.inr (7, [.ref 1, .ref 3, .ref 4, .ref 62, .ref 15, .ref 17, .ref 30, .ref 46, .long 0, .int (nI 0), .int (nI 0), .int (nI 0), .int (nI 0), .int (nI 0)]), k_tp 2 0, k_ba 400 (fun _ => nI 0), k_rd 1 0 (-nI 1), .inr (1, [.ref 5, .ref 7, .ref 8]), k_uses 6, k_la 5 k_u0, k_ia 60 (fun _ => nI 0), k_ra 6 6 (k_arows (k_w0 5)), k_la 60 (k_arow 0), k_la 60 (k_arow 1), k_la 60 (k_arow 2), k_la 60 (k_arow 3), k_la 60 (k_arow 4), k_la 60 (k_arow 5), k_uses 16, k_la 5 k_u0, k_ra 5 6 (va_up (va_up (va_up (va_up (va_up (va_up (fun _ => none) 0 (some 18)) 1 (some 20)) 2 (some 22)) 3 (some 24)) 4 (some 26)) 5 (some 28)), k_uses 19, k_la 5 k_u0, k_uses 21, k_la 5 k_u0, k_uses 23, k_la 5 k_u0, k_uses 25, k_la 5 k_u0, k_uses 27, k_la 5 k_u0, k_uses 29, k_la 5 k_u0, .inr (0, [.ref 31, .int (nI 0)]), k_ra 4 14 (k_rws (fun i => 31 + 1 + i)), k_ln k_q0, k_ln k_q0, k_ln k_q0, k_ln k_q0, k_ln k_q0, k_ln k_q0, k_ln k_q0, k_ln k_q0, k_ln k_q0, k_ln k_q0, k_ln k_q0, k_ln k_q0, k_ln k_q0, k_ln k_q0, .inr (0, [.ref 47, .int (nI 0)]), k_ra 4 14 (k_rws (fun i => 47 + 1 + i)), k_ln k_q0, k_ln k_q0, k_ln k_q0, k_ln k_q0, k_ln k_q0, k_ln k_q0, k_ln k_q0, k_ln k_q0, k_ln k_q0, k_ln k_q0, k_ln k_q0, k_ln k_q0, k_ln k_q0, k_ln k_q0, k_so 63 66 67 69 30 0 false (nI 0), .inr (1, [.ref 64, .ref 7, .ref 8]), k_uses 65, k_la 5 k_u0, k_ia 5 (fun _ => nI 0), k_uses 68, k_la 5 k_u0, k_ia 14 (fun _ => nI 0)])) rfl ?_
  refine m_J_run hM 2 rfl ⟨trivial, trivial, trivial⟩ ?_
  refine m_J_putc hM rfl rfl (rfl) (rfl) (by decide) ?_
  refine m_J_S (S2 := (154, [some (.ref 0), some (.int (nI 6))], [], [.inr (7, [.ref 1, .ref 3, .ref 4, .ref 62, .ref 15, .ref 17, .ref 30, .ref 46, .long 0, .int (nI 0), .int (nI 0), .int (nI 0), .int (-nI 1), .int (nI 0)]), k_tp 2 0, k_ba 400 (fun _ => nI 0), k_rd 1 0 (-nI 1), .inr (1, [.ref 5, .ref 7, .ref 8]), k_uses 6, k_la 5 k_u0, k_ia 60 (fun _ => nI 0), k_ra 6 6 (k_arows (k_w0 5)), k_la 60 (k_arow 0), k_la 60 (k_arow 1), k_la 60 (k_arow 2), k_la 60 (k_arow 3), k_la 60 (k_arow 4), k_la 60 (k_arow 5), k_uses 16, k_la 5 k_u0, k_ra 5 6 (va_up (va_up (va_up (va_up (va_up (va_up (fun _ => none) 0 (some 18)) 1 (some 20)) 2 (some 22)) 3 (some 24)) 4 (some 26)) 5 (some 28)), k_uses 19, k_la 5 k_u0, k_uses 21, k_la 5 k_u0, k_uses 23, k_la 5 k_u0, k_uses 25, k_la 5 k_u0, k_uses 27, k_la 5 k_u0, k_uses 29, k_la 5 k_u0, .inr (0, [.ref 31, .int (nI 0)]), k_ra 4 14 (k_rws (fun i => 31 + 1 + i)), k_ln k_q0, k_ln k_q0, k_ln k_q0, k_ln k_q0, k_ln k_q0, k_ln k_q0, k_ln k_q0, k_ln k_q0, k_ln k_q0, k_ln k_q0, k_ln k_q0, k_ln k_q0, k_ln k_q0, k_ln k_q0, .inr (0, [.ref 47, .int (nI 0)]), k_ra 4 14 (k_rws (fun i => 47 + 1 + i)), k_ln k_q0, k_ln k_q0, k_ln k_q0, k_ln k_q0, k_ln k_q0, k_ln k_q0, k_ln k_q0, k_ln k_q0, k_ln k_q0, k_ln k_q0, k_ln k_q0, k_ln k_q0, k_ln k_q0, k_ln k_q0, k_so 63 66 67 69 30 0 false (nI 0), .inr (1, [.ref 64, .ref 7, .ref 8]), k_uses 65, k_la 5 k_u0, k_ia 5 (fun _ => nI 0), k_uses 68, k_la 5 k_u0, k_ia 14 (fun _ => nI 0)])) rfl ?_
  refine m_J_run hM 2 rfl ⟨trivial, trivial, trivial⟩ ?_
  refine m_J_putc hM rfl rfl (rfl) (rfl) (by decide) ?_
  refine m_J_S (S2 := (159, [some (.ref 0), some (.int (nI 6))], [], [.inr (7, [.ref 1, .ref 3, .ref 4, .ref 62, .ref 15, .ref 17, .ref 30, .ref 46, .long 0, .int (nI 0), .int (nI 0), .int (nI 0), .int (-nI 1), .int (nI 0)]), k_tp 2 0, k_ba 400 (fun _ => nI 0), k_rd 1 0 (-nI 1), .inr (1, [.ref 5, .ref 7, .ref 8]), k_uses 6, k_la 5 k_u0, k_ia 60 (fun _ => nI 0), k_ra 6 6 (k_arows (k_w0 5)), k_la 60 (k_arow 0), k_la 60 (k_arow 1), k_la 60 (k_arow 2), k_la 60 (k_arow 3), k_la 60 (k_arow 4), k_la 60 (k_arow 5), k_uses 16, k_la 5 k_u0, k_ra 5 6 (va_up (va_up (va_up (va_up (va_up (va_up (fun _ => none) 0 (some 18)) 1 (some 20)) 2 (some 22)) 3 (some 24)) 4 (some 26)) 5 (some 28)), k_uses 19, k_la 5 k_u0, k_uses 21, k_la 5 k_u0, k_uses 23, k_la 5 k_u0, k_uses 25, k_la 5 k_u0, k_uses 27, k_la 5 k_u0, k_uses 29, k_la 5 k_u0, .inr (0, [.ref 31, .int (nI 0)]), k_ra 4 14 (k_rws (fun i => 31 + 1 + i)), k_ln k_q0, k_ln k_q0, k_ln k_q0, k_ln k_q0, k_ln k_q0, k_ln k_q0, k_ln k_q0, k_ln k_q0, k_ln k_q0, k_ln k_q0, k_ln k_q0, k_ln k_q0, k_ln k_q0, k_ln k_q0, .inr (0, [.ref 47, .int (nI 0)]), k_ra 4 14 (k_rws (fun i => 47 + 1 + i)), k_ln k_q0, k_ln k_q0, k_ln k_q0, k_ln k_q0, k_ln k_q0, k_ln k_q0, k_ln k_q0, k_ln k_q0, k_ln k_q0, k_ln k_q0, k_ln k_q0, k_ln k_q0, k_ln k_q0, k_ln k_q0, k_so 63 66 67 69 30 0 false (nI 0), .inr (1, [.ref 64, .ref 7, .ref 8]), k_uses 65, k_la 5 k_u0, k_ia 5 (fun _ => nI 0), k_uses 68, k_la 5 k_u0, k_ia 14 (fun _ => nI 0)])) rfl ?_
  refine m_vret hM rfl rfl (Nat.le_of_ble_eq_true rfl) (Nat.le_of_ble_eq_true rfl) ?_
  rw [show (va_up (va_up (va_up (va_up (va_up (va_up (fun _ => none) 0 (some 18)) 1 (some 20)) 2 (some 22)) 3 (some 24)) 4 (some 26)) 5 (some 28)) = k_pls from ?_]
  · rfl
  · funext j
    unfold k_pls va_up
    match j with
    | 0 => rfl
    | 1 => rfl
    | 2 => rfl
    | 3 => rfl
    | 4 => rfl
    | 5 => rfl
    | j + 6 => rw [if_neg (show ¬ j + 6 < 6 by omega)]; simp
end
end
section
/-! OWED: NoSuchElementException's constructor passes by pool entry 13, not 7: its throw by a row of its own -/
theorem m_J_throwN {l : Launch} {E : mE} {N : Nat} {xs : Nat → Int32} {M : mM} {d mc ms : Nat} {PR : Option Value → mH → Bool → Prop} {PX : String → mH → Prop} {tg : Bool} {kc ks : Nat} {pc : Nat} {L : List (Option Value)} {h : mH} {rest : List Value} {si t0 t1 t2 t3 t4 is : Nat} {text : String} (hl : l.stackTraces = false) (hM : m_okM M = true) (hh : M.2.2.2.2.1 = []) (hcl : M.1.cls = RX8) (f0 : (m_tb M).lookup pc = some (.new 180, t0)) (f3 : (m_tb M).lookup (pc + 3) = some (.dup, t1)) (f4 : (m_tb M).lookup (pc + 4) = some (.ldc is, t2)) (f6 : (m_tb M).lookup (pc + 6) = some (.invokespecial 184, t3)) (f9 : (m_tb M).lookup (pc + 9) = some (.athrow, t4))
    (hs9 : m_strs[si]? = some (M.1.cls, is, text)) (hrs : (rest.map fun v => v.category).sum ≤ 40) (hc : kc + 1 ≤ mc) (hs : ks + 6 ≤ ms) (hp : PX "java/util/NoSuchElementException" h) : m_J l (m_EX E N xs) E M d mc ms PR PX tg kc ks (pc, L, rest, h) := by
  sorry
end
section
/-! THE METHODS OF LandUses (written by wip/gen_class.py) -/
theorem kt_IA : m_tw RX8 97 101 "java/lang/IllegalArgumentException" = true := by decide +kernel
theorem kt_IO : m_tw RX8 248 252 "java/lang/IndexOutOfBoundsException" = true := by decide +kernel
section
variable {l : Launch} {EX : State → Prop} {E : mE} {M : mM} {d mc ms : Nat} {PX : String → mH → Prop} {tg : Bool} {kc ks : Nat} {pc t : Nat} {L : List (Option Value)} {h h1 : mH}
theorem m_aret (hM : m_okM M = true) (hf : (m_tb M).lookup pc = some (.areturn, t)) {a : Nat} {ty : FieldType} (hr : M.2.2.2.1 = some ty) (hn : (∃ n, ty = .object n) ∨ ∃ t, ty = .array t) (hc : kc ≤ mc) (hs : ks ≤ ms) (eh : h = h1) : m_J l EX E M d mc ms (m_K (some (.ref a)) h1 tg) PX tg kc ks (pc, L, [.ref a], h) := by
  subst eh
  exact m_J_aret hM hf hr hn hc hs ⟨rfl, rfl, rfl⟩
theorem k_fr_set {a : Nat} {B : List Nat} {H : mH} {c : va_E} (hF : k_fr (a :: B) h H) (hc : H[a]? = some c) : k_fr B (h.set a c) H := by
  refine ⟨by rw [List.length_set]; exact hF.1, fun k hk => ?_⟩
  by_cases e : a = k
  · subst e
    rw [hc, List.getElem?_set_self (by rw [← hF.1]; exact k_lt hc)]
  · rw [List.getElem?_set_ne e]
    exact hF.2 k (by simp only [List.mem_cons, not_or]; exact ⟨Ne.symm e, hk⟩)
theorem k_fr_nil {H : mH} (hF : k_fr [] h H) : H = h := by
  apply List.ext_getElem?
  intro k
  exact hF.2 k (by simp)
end
section
variable {l : Launch} {E : mE} {N : Nat} {xs : Nat → Int32} {d : Nat} {tg : Bool}
variable {fr : Int64} {gt : Nat} {pn : Nat} {yr : Nat} {wg : Int32} {se : Bool} {sw : Bool} {n : Nat} {g : Nat → Int32} {rp : Nat} {rq : Int32} {f : Nat → Int64} {so : Nat → Int32} {nx : Nat → Int64} {pl : Nat → Nat → Int64} {mL : Nat} {qL : Nat → kL} {mS : Nat} {qS : Nat → kL} {sb : Nat} {cnt : Nat} {fd : Bool} {bw : Int32} {F : Nat → Int64} {sqs : Nat → Nat} {bu : Nat → Int64} {wb : Nat → Int32} {o : mH}
theorem k_U_BL (hm : mL ≤ 14) (hq : ∀ i, i < 14 → k_lok (qL i)) : k_BK (k_U fr gt pn yr wg se sw n g rp rq f so nx pl mL qL mS qS sb cnt fd bw F sqs bu wb o) (bif sw then 46 else 30) (bif sw then 47 else 31) (fun i => (bif sw then 47 else 31) + 1 + i) mL qL := by
  cases sw with
  | false =>
    refine ⟨rfl, rfl, fun i hi => ?_, hm, hq⟩
    match i with
    | 0 => rfl
    | 1 => rfl
    | 2 => rfl
    | 3 => rfl
    | 4 => rfl
    | 5 => rfl
    | 6 => rfl
    | 7 => rfl
    | 8 => rfl
    | 9 => rfl
    | 10 => rfl
    | 11 => rfl
    | 12 => rfl
    | 13 => rfl
    | i + 14 => exact absurd hi (by omega)
  | true =>
    refine ⟨rfl, rfl, fun i hi => ?_, hm, hq⟩
    match i with
    | 0 => rfl
    | 1 => rfl
    | 2 => rfl
    | 3 => rfl
    | 4 => rfl
    | 5 => rfl
    | 6 => rfl
    | 7 => rfl
    | 8 => rfl
    | 9 => rfl
    | 10 => rfl
    | 11 => rfl
    | 12 => rfl
    | 13 => rfl
    | i + 14 => exact absurd hi (by omega)
theorem k_U_BS (hm : mS ≤ 14) (hq : ∀ i, i < 14 → k_lok (qS i)) : k_BK (k_U fr gt pn yr wg se sw n g rp rq f so nx pl mL qL mS qS sb cnt fd bw F sqs bu wb o) (bif sw then 30 else 46) (bif sw then 31 else 47) (fun i => (bif sw then 31 else 47) + 1 + i) mS qS := by
  cases sw with
  | false =>
    refine ⟨rfl, rfl, fun i hi => ?_, hm, hq⟩
    match i with
    | 0 => rfl
    | 1 => rfl
    | 2 => rfl
    | 3 => rfl
    | 4 => rfl
    | 5 => rfl
    | 6 => rfl
    | 7 => rfl
    | 8 => rfl
    | 9 => rfl
    | 10 => rfl
    | 11 => rfl
    | 12 => rfl
    | 13 => rfl
    | i + 14 => exact absurd hi (by omega)
  | true =>
    refine ⟨rfl, rfl, fun i hi => ?_, hm, hq⟩
    match i with
    | 0 => rfl
    | 1 => rfl
    | 2 => rfl
    | 3 => rfl
    | 4 => rfl
    | 5 => rfl
    | 6 => rfl
    | 7 => rfl
    | 8 => rfl
    | 9 => rfl
    | 10 => rfl
    | 11 => rfl
    | 12 => rfl
    | 13 => rfl
    | i + 14 => exact absurd hi (by omega)
theorem k_U_LD : k_LD (k_U fr gt pn yr wg se sw n g rp rq f so nx pl mL qL mS qS sb cnt fd bw F sqs bu wb o) 4 5 6 7 8 (k_w0 5) f so := by
  refine ⟨rfl, rfl, rfl, rfl, rfl, fun i hi => ?_⟩
  match i with
  | 0 => rfl
  | 1 => rfl
  | 2 => rfl
  | 3 => rfl
  | 4 => rfl
  | 5 => rfl
  | i + 6 => exact absurd hi (by omega)
theorem k_U_LT : k_LD (k_U fr gt pn yr wg se sw n g rp rq f so nx pl mL qL mS qS sb cnt fd bw F sqs bu wb o) 63 64 65 7 8 (k_w0 5) F so := by
  refine ⟨rfl, rfl, rfl, rfl, rfl, fun i hi => ?_⟩
  match i with
  | 0 => rfl
  | 1 => rfl
  | 2 => rfl
  | 3 => rfl
  | 4 => rfl
  | 5 => rfl
  | i + 6 => exact absurd hi (by omega)
theorem k_U_TP (hn : n ≤ 400) : k_TP (k_U fr gt pn yr wg se sw n g rp rq f so nx pl mL qL mS qS sb cnt fd bw F sqs bu wb o) 3 1 2 rp rq n g := ⟨rfl, rfl, rfl, hn⟩
theorem k_U_cnt : (k_U fr gt pn yr wg se sw n g rp rq f so nx pl mL qL mS qS sb cnt fd bw F sqs bu wb o)[(bif sw then 46 else 30)]? = some (.inr (0, [.ref (bif sw then 47 else 31), .int (nI mL)])) ∧ (k_U fr gt pn yr wg se sw n g rp rq f so nx pl mL qL mS qS sb cnt fd bw F sqs bu wb o)[(bif sw then 30 else 46)]? = some (.inr (0, [.ref (bif sw then 31 else 47), .int (nI mS)])) := by cases sw <;> exact ⟨rfl, rfl⟩
theorem k_U_pl {i : Nat} (hi : i < 6) : (k_U fr gt pn yr wg se sw n g rp rq f so nx pl mL qL mS qS sb cnt fd bw F sqs bu wb o)[18 + 2 * i]? = some (k_uses (19 + 2 * i)) ∧ (k_U fr gt pn yr wg se sw n g rp rq f so nx pl mL qL mS qS sb cnt fd bw F sqs bu wb o)[19 + 2 * i]? = some (k_la 5 (pl i)) := by
  match i with
  | 0 => exact ⟨rfl, rfl⟩
  | 1 => exact ⟨rfl, rfl⟩
  | 2 => exact ⟨rfl, rfl⟩
  | 3 => exact ⟨rfl, rfl⟩
  | 4 => exact ⟨rfl, rfl⟩
  | 5 => exact ⟨rfl, rfl⟩
  | i + 6 => exact absurd hi (by omega)
theorem x_cs {a : Nat} (ha : a < 60) {h : mH} : m_Dt l (m_EX E N xs) E mM_X8_checkSquare d 0 0 [.int (nI a)] h tg none h tg := by
  have hM := mM_X8_checkSquare_ok
  refine m_Sp_of (by decide) (Nat.le_of_ble_eq_true rfl) ?_
  refine m_J_run hM 2 rfl ⟨trivial, trivial, trivial⟩ ?_
  refine m_J_if (fun hc => absurd hc (nI_pos (by omega))) (fun _ => ?_)
  refine m_J_run hM 3 rfl ⟨trivial, trivial, trivial, trivial⟩ ?_
  refine m_J_if (fun _ => ?_) (fun hc => absurd (nI_lt ha (by omega)) hc)
  exact m_vret hM rfl rfl (Nat.le_of_ble_eq_true rfl) (Nat.le_of_ble_eq_true rfl) (rfl)
theorem x_cs_x (hl : l.stackTraces = false) {x : Int32} (hx : x < 0 ∨ ¬ x < nI 60) {h : mH} : m_Dx l (m_EX E N xs) E mM_X8_checkSquare d 1 6 [.int x] h tg "java/lang/IndexOutOfBoundsException" h := by
  have hM := mM_X8_checkSquare_ok
  refine m_Sp_of (by decide) (Nat.le_of_ble_eq_true rfl) ?_
  refine m_J_run hM 2 rfl ⟨trivial, trivial, trivial⟩ ?_
  refine m_J_if (fun hc => ?_) (fun hc => ?_)
  · exact m_J_throw (si := 0) (nm := "java/lang/IndexOutOfBoundsException") (rest := []) hl hM rfl rfl rfl rfl rfl rfl rfl kt_IO (Nat.le_of_ble_eq_true rfl) (Nat.le_of_ble_eq_true rfl) (Nat.le_of_ble_eq_true rfl) ⟨rfl, rfl⟩
  refine m_J_run hM 3 rfl ⟨trivial, trivial, trivial, trivial⟩ ?_
  refine m_J_if (fun hc2 => absurd hc2 (hx.resolve_left hc)) (fun _ => ?_)
  exact m_J_throw (si := 0) (nm := "java/lang/IndexOutOfBoundsException") (rest := []) hl hM rfl rfl rfl rfl rfl rfl rfl kt_IO (Nat.le_of_ble_eq_true rfl) (Nat.le_of_ble_eq_true rfl) (Nat.le_of_ble_eq_true rfl) ⟨rfl, rfl⟩
set_option maxHeartbeats 2000000 in
theorem x_checkPlan {a : Nat} (ha : a < pn) (hb : pn ≤ 14) : m_Dt l (m_EX E N xs) E mM_X8_checkPlan d 0 0 [.ref 0, .int (nI a)] (k_U fr gt pn yr wg se sw n g rp rq f so nx pl mL qL mS qS sb cnt fd bw F sqs bu wb o) tg (none) (k_U fr gt pn yr wg se sw n g rp rq f so nx pl mL qL mS qS sb cnt fd bw F sqs bu wb o) tg := by
  have hM := mM_X8_checkPlan_ok
  refine m_Sp_of (by decide) (Nat.le_of_ble_eq_true rfl) ?_
  refine m_J_run hM 2 rfl ⟨trivial, trivial, trivial⟩ ?_
  refine m_J_if (fun hc => absurd hc (nI_pos (by omega))) (fun _ => ?_)
  refine m_J_run hM 2 rfl ⟨trivial, trivial, trivial⟩ ?_
  refine m_J_getf hM rfl rfl (rfl) (rfl) ?_
  refine m_J_run hM 1 rfl ⟨trivial, trivial⟩ ?_
  refine m_J_if (fun _ => ?_) (fun hc => absurd (nI_lt ha (by omega)) hc)
  exact m_vret hM rfl rfl (Nat.le_of_ble_eq_true rfl) (Nat.le_of_ble_eq_true rfl) (rfl)
set_option maxHeartbeats 2000000 in
theorem x_checkPlan_x (hl : l.stackTraces = false) {x : Int32} (hx : x < 0 ∨ ¬ x < nI pn) : m_Dx l (m_EX E N xs) E mM_X8_checkPlan d 1 6 [.ref 0, .int x] (k_U fr gt pn yr wg se sw n g rp rq f so nx pl mL qL mS qS sb cnt fd bw F sqs bu wb o) tg "java/lang/IndexOutOfBoundsException" (k_U fr gt pn yr wg se sw n g rp rq f so nx pl mL qL mS qS sb cnt fd bw F sqs bu wb o) := by
  have hM := mM_X8_checkPlan_ok
  refine m_Sp_of (by decide) (Nat.le_of_ble_eq_true rfl) ?_
  refine m_J_run hM 2 rfl ⟨trivial, trivial, trivial⟩ ?_
  refine m_J_if (fun hc => ?_) (fun hc => ?_)
  · exact m_J_throw (si := 25) (nm := "java/lang/IndexOutOfBoundsException") (rest := []) hl hM rfl rfl rfl rfl rfl rfl rfl kt_IO (Nat.le_of_ble_eq_true rfl) (Nat.le_of_ble_eq_true rfl) (Nat.le_of_ble_eq_true rfl) ⟨rfl, rfl⟩
  refine m_J_run hM 2 rfl ⟨trivial, trivial, trivial⟩ ?_
  refine m_J_getf hM rfl rfl (rfl) (rfl) ?_
  refine m_J_run hM 1 rfl ⟨trivial, trivial⟩ ?_
  refine m_J_if (fun hc2 => absurd hc2 (hx.resolve_left hc)) (fun _ => ?_)
  exact m_J_throw (si := 25) (nm := "java/lang/IndexOutOfBoundsException") (rest := []) hl hM rfl rfl rfl rfl rfl rfl rfl kt_IO (Nat.le_of_ble_eq_true rfl) (Nat.le_of_ble_eq_true rfl) (Nat.le_of_ble_eq_true rfl) ⟨rfl, rfl⟩
set_option maxHeartbeats 2000000 in
theorem x_checkLine {a : Nat} (ha : a < mL) (hb : mL ≤ 14) : m_Dt l (m_EX E N xs) E mM_X8_checkLine d 0 0 [.ref 0, .int (nI a)] (k_U fr gt pn yr wg se sw n g rp rq f so nx pl mL qL mS qS sb cnt fd bw F sqs bu wb o) tg (none) (k_U fr gt pn yr wg se sw n g rp rq f so nx pl mL qL mS qS sb cnt fd bw F sqs bu wb o) tg := by
  have hM := mM_X8_checkLine_ok
  refine m_Sp_of (by decide) (Nat.le_of_ble_eq_true rfl) ?_
  refine m_J_run hM 2 rfl ⟨trivial, trivial, trivial⟩ ?_
  refine m_J_if (fun hc => absurd hc (nI_pos (by omega))) (fun _ => ?_)
  refine m_J_run hM 2 rfl ⟨trivial, trivial, trivial⟩ ?_
  refine m_J_getf hM rfl rfl (rfl) (rfl) ?_
  refine m_J_getf hM rfl rfl ((k_U_cnt (sw := sw)).1) (rfl) ?_
  refine m_J_run hM 1 rfl ⟨trivial, trivial⟩ ?_
  refine m_J_if (fun _ => ?_) (fun hc => absurd (nI_lt ha (by omega)) hc)
  exact m_vret hM rfl rfl (Nat.le_of_ble_eq_true rfl) (Nat.le_of_ble_eq_true rfl) (rfl)
set_option maxHeartbeats 2000000 in
theorem x_checkLine_x (hl : l.stackTraces = false) {x : Int32} (hx : x < 0 ∨ ¬ x < nI mL) : m_Dx l (m_EX E N xs) E mM_X8_checkLine d 1 6 [.ref 0, .int x] (k_U fr gt pn yr wg se sw n g rp rq f so nx pl mL qL mS qS sb cnt fd bw F sqs bu wb o) tg "java/lang/IndexOutOfBoundsException" (k_U fr gt pn yr wg se sw n g rp rq f so nx pl mL qL mS qS sb cnt fd bw F sqs bu wb o) := by
  have hM := mM_X8_checkLine_ok
  refine m_Sp_of (by decide) (Nat.le_of_ble_eq_true rfl) ?_
  refine m_J_run hM 2 rfl ⟨trivial, trivial, trivial⟩ ?_
  refine m_J_if (fun hc => ?_) (fun hc => ?_)
  · exact m_J_throw (si := 20) (nm := "java/lang/IndexOutOfBoundsException") (rest := []) hl hM rfl rfl rfl rfl rfl rfl rfl kt_IO (Nat.le_of_ble_eq_true rfl) (Nat.le_of_ble_eq_true rfl) (Nat.le_of_ble_eq_true rfl) ⟨rfl, rfl⟩
  refine m_J_run hM 2 rfl ⟨trivial, trivial, trivial⟩ ?_
  refine m_J_getf hM rfl rfl (rfl) (rfl) ?_
  refine m_J_getf hM rfl rfl ((k_U_cnt (sw := sw)).1) (rfl) ?_
  refine m_J_run hM 1 rfl ⟨trivial, trivial⟩ ?_
  refine m_J_if (fun hc2 => absurd hc2 (hx.resolve_left hc)) (fun _ => ?_)
  exact m_J_throw (si := 20) (nm := "java/lang/IndexOutOfBoundsException") (rest := []) hl hM rfl rfl rfl rfl rfl rfl rfl kt_IO (Nat.le_of_ble_eq_true rfl) (Nat.le_of_ble_eq_true rfl) (Nat.le_of_ble_eq_true rfl) ⟨rfl, rfl⟩
set_option maxHeartbeats 2000000 in
theorem x_feed {a b c e i : Int32} (hn : n ≤ 380) : m_Dt l (m_EX E N xs) E mM_X8_feed (d + 1) 0 0 [.ref 0, .int a, .int b, .int c, .int e, .int i] (k_U fr gt pn yr wg se sw n g rp rq f so nx pl mL qL mS qS sb cnt fd bw F sqs bu wb o) tg (some (.int (nI (n + 20)))) (k_U fr gt pn yr wg se sw (n + 20) (k_ap (k_ap (k_ap (k_ap (k_ap g n a 4) (n + 4) b 4) (n + 8) c 4) (n + 12) e 4) (n + 16) i 4) rp rq f so nx pl mL qL mS qS sb cnt fd bw F sqs bu wb o) tg := by
  have hM := mM_X8_feed_ok
  refine m_Sp_of (by decide) (Nat.le_of_ble_eq_true rfl) ?_
  refine m_J_run hM 1 rfl ⟨trivial, trivial⟩ ?_
  refine m_J_getf hM rfl rfl (rfl) (rfl) ?_
  refine m_callV (as := []) (rest := []) (m_EX_warm E N xs) hM rfl kw_X8_83 rfl rfl (rfl) ⟨_, rfl, rfl⟩ (t_room (tb := 2) (n := n) rfl) rfl (Nat.le_of_ble_eq_true rfl) (Nat.le_of_ble_eq_true rfl) (Nat.le_of_ble_eq_true rfl) (fun ht => ⟨ht, by simp⟩) ?_
  rw [show k_z (decide (¬ nI 380 < nI n)) = nI 1 by simp [k_z, nI_nlt hn (by omega)]]
  refine m_J_run hM 1 rfl ⟨trivial, trivial⟩ ?_
  refine m_J_if (fun _ => ?_) (fun hc => absurd (by decide) hc)
  refine m_J_run hM 1 rfl ⟨trivial, trivial⟩ ?_
  refine m_J_getf hM rfl rfl (rfl) (rfl) ?_
  refine m_J_run hM 1 rfl ⟨trivial, trivial⟩ ?_
  refine m_callV (as := [.int a]) (rest := []) (m_EX_warm E N xs) hM rfl kw_X8_87 rfl rfl (rfl) ⟨_, rfl, rfl⟩ (t_append (tb := 2) (n := n + 0) rfl rfl (by omega)) rfl (Nat.le_of_ble_eq_true rfl) (Nat.le_of_ble_eq_true rfl) (Nat.le_of_ble_eq_true rfl) (fun ht => ⟨ht, by simp⟩) ?_
  refine m_J_eqH (H' := (k_U fr gt pn yr wg se sw (n + 4) (k_ap (g) (n + 0) a 4) rp rq f so nx pl mL qL mS qS sb cnt fd bw F sqs bu wb o)) rfl ?_
  refine m_J_run hM 1 rfl ⟨trivial, trivial⟩ ?_
  refine m_J_getf hM rfl rfl (rfl) (rfl) ?_
  refine m_J_run hM 1 rfl ⟨trivial, trivial⟩ ?_
  refine m_callV (as := [.int b]) (rest := []) (m_EX_warm E N xs) hM rfl kw_X8_87 rfl rfl (rfl) ⟨_, rfl, rfl⟩ (t_append (tb := 2) (n := n + 4) rfl rfl (by omega)) rfl (Nat.le_of_ble_eq_true rfl) (Nat.le_of_ble_eq_true rfl) (Nat.le_of_ble_eq_true rfl) (fun ht => ⟨ht, by simp⟩) ?_
  refine m_J_eqH (H' := (k_U fr gt pn yr wg se sw (n + 8) (k_ap (k_ap (g) (n + 0) a 4) (n + 4) b 4) rp rq f so nx pl mL qL mS qS sb cnt fd bw F sqs bu wb o)) rfl ?_
  refine m_J_run hM 1 rfl ⟨trivial, trivial⟩ ?_
  refine m_J_getf hM rfl rfl (rfl) (rfl) ?_
  refine m_J_run hM 1 rfl ⟨trivial, trivial⟩ ?_
  refine m_callV (as := [.int c]) (rest := []) (m_EX_warm E N xs) hM rfl kw_X8_87 rfl rfl (rfl) ⟨_, rfl, rfl⟩ (t_append (tb := 2) (n := n + 8) rfl rfl (by omega)) rfl (Nat.le_of_ble_eq_true rfl) (Nat.le_of_ble_eq_true rfl) (Nat.le_of_ble_eq_true rfl) (fun ht => ⟨ht, by simp⟩) ?_
  refine m_J_eqH (H' := (k_U fr gt pn yr wg se sw (n + 12) (k_ap (k_ap (k_ap (g) (n + 0) a 4) (n + 4) b 4) (n + 8) c 4) rp rq f so nx pl mL qL mS qS sb cnt fd bw F sqs bu wb o)) rfl ?_
  refine m_J_run hM 1 rfl ⟨trivial, trivial⟩ ?_
  refine m_J_getf hM rfl rfl (rfl) (rfl) ?_
  refine m_J_run hM 1 rfl ⟨trivial, trivial⟩ ?_
  refine m_callV (as := [.int e]) (rest := []) (m_EX_warm E N xs) hM rfl kw_X8_87 rfl rfl (rfl) ⟨_, rfl, rfl⟩ (t_append (tb := 2) (n := n + 12) rfl rfl (by omega)) rfl (Nat.le_of_ble_eq_true rfl) (Nat.le_of_ble_eq_true rfl) (Nat.le_of_ble_eq_true rfl) (fun ht => ⟨ht, by simp⟩) ?_
  refine m_J_eqH (H' := (k_U fr gt pn yr wg se sw (n + 16) (k_ap (k_ap (k_ap (k_ap (g) (n + 0) a 4) (n + 4) b 4) (n + 8) c 4) (n + 12) e 4) rp rq f so nx pl mL qL mS qS sb cnt fd bw F sqs bu wb o)) rfl ?_
  refine m_J_run hM 1 rfl ⟨trivial, trivial⟩ ?_
  refine m_J_getf hM rfl rfl (rfl) (rfl) ?_
  refine m_J_run hM 1 rfl ⟨trivial, trivial⟩ ?_
  refine m_callV (as := [.int i]) (rest := []) (m_EX_warm E N xs) hM rfl kw_X8_87 rfl rfl (rfl) ⟨_, rfl, rfl⟩ (t_append (tb := 2) (n := n + 16) rfl rfl (by omega)) rfl (Nat.le_of_ble_eq_true rfl) (Nat.le_of_ble_eq_true rfl) (Nat.le_of_ble_eq_true rfl) (fun ht => ⟨ht, by simp⟩) ?_
  refine m_J_eqH (H' := (k_U fr gt pn yr wg se sw (n + 20) (k_ap (k_ap (k_ap (k_ap (k_ap (g) (n + 0) a 4) (n + 4) b 4) (n + 8) c 4) (n + 12) e 4) (n + 16) i 4) rp rq f so nx pl mL qL mS qS sb cnt fd bw F sqs bu wb o)) rfl ?_
  refine m_J_run hM 1 rfl ⟨trivial, trivial⟩ ?_
  refine m_J_getf hM rfl rfl (rfl) (rfl) ?_
  refine m_J_getf hM rfl rfl (rfl) (rfl) ?_
  exact m_iret hM rfl rfl rfl (Nat.le_of_ble_eq_true rfl) (Nat.le_of_ble_eq_true rfl) (rfl) (rfl)
set_option maxHeartbeats 2000000 in
theorem x_feed_n {a b c e i : Int32} (hn : 380 < n) (hn2 : n ≤ 400) : m_Dt l (m_EX E N xs) E mM_X8_feed (d + 1) 0 0 [.ref 0, .int a, .int b, .int c, .int e, .int i] (k_U fr gt pn yr wg se sw n g rp rq f so nx pl mL qL mS qS sb cnt fd bw F sqs bu wb o) tg (some (.int (-nI 1))) (k_U fr gt pn yr wg se sw n g rp rq f so nx pl mL qL mS qS sb cnt fd bw F sqs bu wb o) tg := by
  have hM := mM_X8_feed_ok
  refine m_Sp_of (by decide) (Nat.le_of_ble_eq_true rfl) ?_
  refine m_J_run hM 1 rfl ⟨trivial, trivial⟩ ?_
  refine m_J_getf hM rfl rfl (rfl) (rfl) ?_
  refine m_callV (as := []) (rest := []) (m_EX_warm E N xs) hM rfl kw_X8_83 rfl rfl (rfl) ⟨_, rfl, rfl⟩ (t_room (tb := 2) (n := n) rfl) rfl (Nat.le_of_ble_eq_true rfl) (Nat.le_of_ble_eq_true rfl) (Nat.le_of_ble_eq_true rfl) (fun ht => ⟨ht, by simp⟩) ?_
  rw [show k_z (decide (¬ nI 380 < nI n)) = nI 0 by simp [k_z, nI_lt hn (by omega)]]
  refine m_J_run hM 1 rfl ⟨trivial, trivial⟩ ?_
  refine m_J_if (fun hc => absurd hc (by decide)) (fun _ => ?_)
  refine m_J_run hM 1 rfl ⟨trivial, trivial⟩ ?_
  exact m_iret hM rfl rfl rfl (Nat.le_of_ble_eq_true rfl) (Nat.le_of_ble_eq_true rfl) (rfl) (rfl)
set_option maxHeartbeats 2000000 in
theorem x_end {a : Nat} (ha : a ≤ n) (hn : n ≤ 400) : m_Dt l (m_EX E N xs) E mM_X8_end d 0 0 [.ref 0, .int (nI a)] (k_U fr gt pn yr wg se sw n g rp rq f so nx pl mL qL mS qS sb cnt fd bw F sqs bu wb o) tg (some (.int (nI 1))) (k_U fr gt pn yr wg se sw (a) g rp rq f so nx pl mL qL mS qS sb cnt fd bw F sqs bu wb o) tg := by
  have hM := mM_X8_end_ok
  refine m_Sp_of (by decide) (Nat.le_of_ble_eq_true rfl) ?_
  refine m_J_run hM 2 rfl ⟨trivial, trivial, trivial⟩ ?_
  refine m_J_if (fun hc => absurd hc (nI_pos (by omega))) (fun _ => ?_)
  refine m_J_run hM 2 rfl ⟨trivial, trivial, trivial⟩ ?_
  refine m_J_getf hM rfl rfl (rfl) (rfl) ?_
  refine m_J_getf hM rfl rfl (rfl) (rfl) ?_
  refine m_J_run hM 1 rfl ⟨trivial, trivial⟩ ?_
  refine m_J_if (fun _ => ?_) (fun hc => absurd (nI_le ha (by omega)) hc)
  refine m_J_run hM 1 rfl ⟨trivial, trivial⟩ ?_
  refine m_J_getf hM rfl rfl (rfl) (rfl) ?_
  refine m_J_run hM 1 rfl ⟨trivial, trivial⟩ ?_
  refine m_J_putf hM rfl rfl (rfl) (rfl) ?_
  refine m_J_run hM 1 rfl ⟨trivial, trivial⟩ ?_
  exact m_iret hM rfl rfl (by decide) (Nat.le_of_ble_eq_true rfl) (Nat.le_of_ble_eq_true rfl) (rfl) (rfl)
set_option maxHeartbeats 2000000 in
theorem x_end_n {x : Int32} (hx : x < 0 ∨ ¬ x ≤ nI n) : m_Dt l (m_EX E N xs) E mM_X8_end d 0 0 [.ref 0, .int x] (k_U fr gt pn yr wg se sw n g rp rq f so nx pl mL qL mS qS sb cnt fd bw F sqs bu wb o) tg (some (.int (nI 0))) (k_U fr gt pn yr wg se sw n g rp rq f so nx pl mL qL mS qS sb cnt fd bw F sqs bu wb o) tg := by
  have hM := mM_X8_end_ok
  refine m_Sp_of (by decide) (Nat.le_of_ble_eq_true rfl) ?_
  refine m_J_run hM 2 rfl ⟨trivial, trivial, trivial⟩ ?_
  refine m_J_if (fun hc => ?_) (fun hc => ?_)
  · refine m_J_run hM 1 rfl ⟨trivial, trivial⟩ ?_
    exact m_iret hM rfl rfl (by decide) (Nat.le_of_ble_eq_true rfl) (Nat.le_of_ble_eq_true rfl) (rfl) (rfl)
  refine m_J_run hM 2 rfl ⟨trivial, trivial, trivial⟩ ?_
  refine m_J_getf hM rfl rfl (rfl) (rfl) ?_
  refine m_J_getf hM rfl rfl (rfl) (rfl) ?_
  refine m_J_run hM 1 rfl ⟨trivial, trivial⟩ ?_
  refine m_J_if (fun hc2 => absurd hc2 (hx.resolve_left hc)) (fun _ => ?_)
  refine m_J_run hM 1 rfl ⟨trivial, trivial⟩ ?_
  exact m_iret hM rfl rfl (by decide) (Nat.le_of_ble_eq_true rfl) (Nat.le_of_ble_eq_true rfl) (rfl) (rfl)
set_option maxHeartbeats 2000000 in
theorem x_use {a b u : Nat} (ha : a < 60) (hb : b < 60) (hu : u < 5) : m_Dt l (m_EX E N xs) E mM_X8_use (d + 2) 0 0 [.ref 0, .int (nI a), .int (nI b), .int (nI u)] (k_U fr gt pn yr wg se sw n g rp rq f so nx pl mL qL mS qS sb cnt fd bw F sqs bu wb o) tg (some (.int (k_pc (k_rc a b &&& (f u ^^^ (-1)))))) (k_U fr gt pn yr wg (false) sw n g rp rq (k_put f (k_rc a b) u) so nx pl mL qL mS qS sb cnt fd bw F sqs bu wb o) tg := by
  have hM := mM_X8_use_ok
  refine m_Sp_of (by decide) (Nat.le_of_ble_eq_true rfl) ?_
  refine m_J_run hM 1 rfl ⟨trivial, trivial⟩ ?_
  refine m_callS (as := [.int (nI a)]) (rest := []) (m_EX_warm E N xs) hM rfl kw_X8_94 rfl (x_cs ha) rfl (Nat.le_of_ble_eq_true rfl) (Nat.le_of_ble_eq_true rfl) (Nat.le_of_ble_eq_true rfl) (fun ht => ⟨ht, Nat.le_refl _⟩) ?_
  refine m_J_run hM 1 rfl ⟨trivial, trivial⟩ ?_
  refine m_callS (as := [.int (nI b)]) (rest := []) (m_EX_warm E N xs) hM rfl kw_X8_94 rfl (x_cs hb) rfl (Nat.le_of_ble_eq_true rfl) (Nat.le_of_ble_eq_true rfl) (Nat.le_of_ble_eq_true rfl) (fun ht => ⟨ht, Nat.le_refl _⟩) ?_
  refine m_J_run hM 2 rfl ⟨trivial, trivial, trivial⟩ ?_
  refine m_J_if (fun hc => absurd hc (nI_pos (by omega))) (fun _ => ?_)
  refine m_J_run hM 3 rfl ⟨trivial, trivial, trivial, trivial⟩ ?_
  refine m_J_if (fun _ => ?_) (fun hc => absurd (nI_lt hu (by omega)) hc)
  refine m_J_run hM 2 rfl ⟨trivial, trivial, trivial⟩ ?_
  refine m_J_putf hM rfl rfl (rfl) (rfl) ?_
  refine m_J_run hM 1 rfl ⟨trivial, trivial⟩ ?_
  refine m_J_getf hM rfl rfl (rfl) (rfl) ?_
  refine m_J_getf hM rfl rfl (rfl) (rfl) ?_
  refine m_J_run hM 2 rfl ⟨trivial, trivial, trivial⟩ ?_
  refine m_callS (as := [.int (nI a), .int (nI b)]) (rest := [.ref 5]) (m_EX_warm E N xs) hM rfl kw_X8_107 rfl (s_rect a b ha hb) rfl (Nat.le_of_ble_eq_true rfl) (Nat.le_of_ble_eq_true rfl) (Nat.le_of_ble_eq_true rfl) (fun ht => ⟨ht, Nat.le_refl _⟩) ?_
  refine m_J_run hM 1 rfl ⟨trivial, trivial⟩ ?_
  refine m_callV (as := [.long (k_rc a b), .int (nI u)]) (rest := []) (m_EX_warm E N xs) hM rfl kw_X8_113 rfl rfl (rfl) ⟨_, rfl, rfl⟩ (u_put hu (b := 6) (f := f) rfl rfl) rfl (Nat.le_of_ble_eq_true rfl) (Nat.le_of_ble_eq_true rfl) (Nat.le_of_ble_eq_true rfl) (fun ht => ⟨ht, by simp⟩) ?_
  exact m_iret hM rfl rfl rfl (Nat.le_of_ble_eq_true rfl) (Nat.le_of_ble_eq_true rfl) (rfl) (rfl)
set_option maxHeartbeats 2000000 in
theorem x_use_1 (hl : l.stackTraces = false) {x y v : Int32} (hx : x < 0 ∨ ¬ x < nI 60) : m_Dx l (m_EX E N xs) E mM_X8_use (d + 1) 1 6 [.ref 0, .int x, .int y, .int v] (k_U fr gt pn yr wg se sw n g rp rq f so nx pl mL qL mS qS sb cnt fd bw F sqs bu wb o) tg "java/lang/IndexOutOfBoundsException" (k_U fr gt pn yr wg se sw n g rp rq f so nx pl mL qL mS qS sb cnt fd bw F sqs bu wb o) := by
  have hM := mM_X8_use_ok
  refine m_Sp_of (by decide) (Nat.le_of_ble_eq_true rfl) ?_
  refine m_J_run hM 1 rfl ⟨trivial, trivial⟩ ?_
  exact m_callSx (as := [.int x]) (rest := []) (m_EX_warm E N xs) hM rfl kw_X8_94 rfl (x_cs_x hl hx) rfl (Nat.le_of_ble_eq_true rfl) (Nat.le_of_ble_eq_true rfl) (Nat.le_of_ble_eq_true rfl) rfl (⟨rfl, rfl⟩)
set_option maxHeartbeats 2000000 in
theorem x_use_2 (hl : l.stackTraces = false) {a : Nat} {x v : Int32} (ha : a < 60) (hx : x < 0 ∨ ¬ x < nI 60) : m_Dx l (m_EX E N xs) E mM_X8_use (d + 1) 1 6 [.ref 0, .int (nI a), .int x, .int v] (k_U fr gt pn yr wg se sw n g rp rq f so nx pl mL qL mS qS sb cnt fd bw F sqs bu wb o) tg "java/lang/IndexOutOfBoundsException" (k_U fr gt pn yr wg se sw n g rp rq f so nx pl mL qL mS qS sb cnt fd bw F sqs bu wb o) := by
  have hM := mM_X8_use_ok
  refine m_Sp_of (by decide) (Nat.le_of_ble_eq_true rfl) ?_
  refine m_J_run hM 1 rfl ⟨trivial, trivial⟩ ?_
  refine m_callS (as := [.int (nI a)]) (rest := []) (m_EX_warm E N xs) hM rfl kw_X8_94 rfl (x_cs ha) rfl (Nat.le_of_ble_eq_true rfl) (Nat.le_of_ble_eq_true rfl) (Nat.le_of_ble_eq_true rfl) (fun ht => ⟨ht, Nat.le_refl _⟩) ?_
  refine m_J_run hM 1 rfl ⟨trivial, trivial⟩ ?_
  exact m_callSx (as := [.int x]) (rest := []) (m_EX_warm E N xs) hM rfl kw_X8_94 rfl (x_cs_x hl hx) rfl (Nat.le_of_ble_eq_true rfl) (Nat.le_of_ble_eq_true rfl) (Nat.le_of_ble_eq_true rfl) rfl (⟨rfl, rfl⟩)
set_option maxHeartbeats 2000000 in
theorem x_use_3 (hl : l.stackTraces = false) {a b : Nat} {x : Int32} (ha : a < 60) (hb : b < 60) (hx : x < 0 ∨ ¬ x < nI 5) : m_Dx l (m_EX E N xs) E mM_X8_use (d + 1) 1 6 [.ref 0, .int (nI a), .int (nI b), .int x] (k_U fr gt pn yr wg se sw n g rp rq f so nx pl mL qL mS qS sb cnt fd bw F sqs bu wb o) tg "java/lang/IllegalArgumentException" (k_U fr gt pn yr wg se sw n g rp rq f so nx pl mL qL mS qS sb cnt fd bw F sqs bu wb o) := by
  have hM := mM_X8_use_ok
  refine m_Sp_of (by decide) (Nat.le_of_ble_eq_true rfl) ?_
  refine m_J_run hM 1 rfl ⟨trivial, trivial⟩ ?_
  refine m_callS (as := [.int (nI a)]) (rest := []) (m_EX_warm E N xs) hM rfl kw_X8_94 rfl (x_cs ha) rfl (Nat.le_of_ble_eq_true rfl) (Nat.le_of_ble_eq_true rfl) (Nat.le_of_ble_eq_true rfl) (fun ht => ⟨ht, Nat.le_refl _⟩) ?_
  refine m_J_run hM 1 rfl ⟨trivial, trivial⟩ ?_
  refine m_callS (as := [.int (nI b)]) (rest := []) (m_EX_warm E N xs) hM rfl kw_X8_94 rfl (x_cs hb) rfl (Nat.le_of_ble_eq_true rfl) (Nat.le_of_ble_eq_true rfl) (Nat.le_of_ble_eq_true rfl) (fun ht => ⟨ht, Nat.le_refl _⟩) ?_
  refine m_J_run hM 2 rfl ⟨trivial, trivial, trivial⟩ ?_
  refine m_J_if (fun hc => ?_) (fun hc => ?_)
  · exact m_J_throw (si := 1) (nm := "java/lang/IllegalArgumentException") (rest := []) hl hM rfl rfl rfl rfl rfl rfl rfl kt_IA (Nat.le_of_ble_eq_true rfl) (Nat.le_of_ble_eq_true rfl) (Nat.le_of_ble_eq_true rfl) ⟨rfl, rfl⟩
  refine m_J_run hM 3 rfl ⟨trivial, trivial, trivial, trivial⟩ ?_
  refine m_J_if (fun hc2 => absurd hc2 (hx.resolve_left hc)) (fun _ => ?_)
  exact m_J_throw (si := 1) (nm := "java/lang/IllegalArgumentException") (rest := []) hl hM rfl rfl rfl rfl rfl rfl rfl kt_IA (Nat.le_of_ble_eq_true rfl) (Nat.le_of_ble_eq_true rfl) (Nat.le_of_ble_eq_true rfl) ⟨rfl, rfl⟩
set_option maxHeartbeats 2000000 in
theorem x_soil {a b u : Nat} (ha : a < 60) (hb : b < 60) (hu : u ≤ 9) : m_Dt l (m_EX E N xs) E mM_X8_soil (d + 3) 0 0 [.ref 0, .int (nI a), .int (nI b), .int (nI u)] (k_U fr gt pn yr wg se sw n g rp rq f so nx pl mL qL mS qS sb cnt fd bw F sqs bu wb o) tg (none) (k_U fr gt pn yr wg (false) sw n g rp rq f (k_soil so (k_rc a b) (nI u) 60) nx pl mL qL mS qS sb cnt fd bw F sqs bu wb o) tg := by
  have hM := mM_X8_soil_ok
  refine m_Sp_of (by decide) (Nat.le_of_ble_eq_true rfl) ?_
  refine m_J_run hM 1 rfl ⟨trivial, trivial⟩ ?_
  refine m_callS (as := [.int (nI a)]) (rest := []) (m_EX_warm E N xs) hM rfl kw_X8_94 rfl (x_cs ha) rfl (Nat.le_of_ble_eq_true rfl) (Nat.le_of_ble_eq_true rfl) (Nat.le_of_ble_eq_true rfl) (fun ht => ⟨ht, Nat.le_refl _⟩) ?_
  refine m_J_run hM 1 rfl ⟨trivial, trivial⟩ ?_
  refine m_callS (as := [.int (nI b)]) (rest := []) (m_EX_warm E N xs) hM rfl kw_X8_94 rfl (x_cs hb) rfl (Nat.le_of_ble_eq_true rfl) (Nat.le_of_ble_eq_true rfl) (Nat.le_of_ble_eq_true rfl) (fun ht => ⟨ht, Nat.le_refl _⟩) ?_
  refine m_J_run hM 2 rfl ⟨trivial, trivial, trivial⟩ ?_
  refine m_J_if (fun hc => absurd hc (nI_pos (by omega))) (fun _ => ?_)
  refine m_J_run hM 3 rfl ⟨trivial, trivial, trivial, trivial⟩ ?_
  refine m_J_if (fun _ => ?_) (fun hc => absurd (nI_le hu (by omega)) hc)
  refine m_J_run hM 2 rfl ⟨trivial, trivial, trivial⟩ ?_
  refine m_J_putf hM rfl rfl (rfl) (rfl) ?_
  refine m_J_run hM 1 rfl ⟨trivial, trivial⟩ ?_
  refine m_J_getf hM rfl rfl (rfl) (rfl) ?_
  refine m_J_run hM 2 rfl ⟨trivial, trivial, trivial⟩ ?_
  refine m_callS (as := [.int (nI a), .int (nI b)]) (rest := [.ref 4]) (m_EX_warm E N xs) hM rfl kw_X8_107 rfl (s_rect a b ha hb) rfl (Nat.le_of_ble_eq_true rfl) (Nat.le_of_ble_eq_true rfl) (Nat.le_of_ble_eq_true rfl) (fun ht => ⟨ht, Nat.le_refl _⟩) ?_
  refine m_J_run hM 1 rfl ⟨trivial, trivial⟩ ?_
  refine m_callV (as := [.long (k_rc a b), .int (nI u)]) (rest := []) (m_EX_warm E N xs) hM rfl kw_X8_119 rfl rfl (rfl) ⟨_, rfl, rfl⟩ (l_putSoil (k_U_LD (se := false))) rfl (Nat.le_of_ble_eq_true rfl) (Nat.le_of_ble_eq_true rfl) (Nat.le_of_ble_eq_true rfl) (fun ht => ⟨ht, by simp⟩) ?_
  exact m_vret hM rfl rfl (Nat.le_of_ble_eq_true rfl) (Nat.le_of_ble_eq_true rfl) (rfl)
set_option maxHeartbeats 2000000 in
theorem x_soil_1 (hl : l.stackTraces = false) {x y v : Int32} (hx : x < 0 ∨ ¬ x < nI 60) : m_Dx l (m_EX E N xs) E mM_X8_soil (d + 1) 1 6 [.ref 0, .int x, .int y, .int v] (k_U fr gt pn yr wg se sw n g rp rq f so nx pl mL qL mS qS sb cnt fd bw F sqs bu wb o) tg "java/lang/IndexOutOfBoundsException" (k_U fr gt pn yr wg se sw n g rp rq f so nx pl mL qL mS qS sb cnt fd bw F sqs bu wb o) := by
  have hM := mM_X8_soil_ok
  refine m_Sp_of (by decide) (Nat.le_of_ble_eq_true rfl) ?_
  refine m_J_run hM 1 rfl ⟨trivial, trivial⟩ ?_
  exact m_callSx (as := [.int x]) (rest := []) (m_EX_warm E N xs) hM rfl kw_X8_94 rfl (x_cs_x hl hx) rfl (Nat.le_of_ble_eq_true rfl) (Nat.le_of_ble_eq_true rfl) (Nat.le_of_ble_eq_true rfl) rfl (⟨rfl, rfl⟩)
set_option maxHeartbeats 2000000 in
theorem x_soil_2 (hl : l.stackTraces = false) {a : Nat} {x v : Int32} (ha : a < 60) (hx : x < 0 ∨ ¬ x < nI 60) : m_Dx l (m_EX E N xs) E mM_X8_soil (d + 1) 1 6 [.ref 0, .int (nI a), .int x, .int v] (k_U fr gt pn yr wg se sw n g rp rq f so nx pl mL qL mS qS sb cnt fd bw F sqs bu wb o) tg "java/lang/IndexOutOfBoundsException" (k_U fr gt pn yr wg se sw n g rp rq f so nx pl mL qL mS qS sb cnt fd bw F sqs bu wb o) := by
  have hM := mM_X8_soil_ok
  refine m_Sp_of (by decide) (Nat.le_of_ble_eq_true rfl) ?_
  refine m_J_run hM 1 rfl ⟨trivial, trivial⟩ ?_
  refine m_callS (as := [.int (nI a)]) (rest := []) (m_EX_warm E N xs) hM rfl kw_X8_94 rfl (x_cs ha) rfl (Nat.le_of_ble_eq_true rfl) (Nat.le_of_ble_eq_true rfl) (Nat.le_of_ble_eq_true rfl) (fun ht => ⟨ht, Nat.le_refl _⟩) ?_
  refine m_J_run hM 1 rfl ⟨trivial, trivial⟩ ?_
  exact m_callSx (as := [.int x]) (rest := []) (m_EX_warm E N xs) hM rfl kw_X8_94 rfl (x_cs_x hl hx) rfl (Nat.le_of_ble_eq_true rfl) (Nat.le_of_ble_eq_true rfl) (Nat.le_of_ble_eq_true rfl) rfl (⟨rfl, rfl⟩)
set_option maxHeartbeats 2000000 in
theorem x_soil_3 (hl : l.stackTraces = false) {a b : Nat} {x : Int32} (ha : a < 60) (hb : b < 60) (hx : x < 0 ∨ ¬ x ≤ nI 9) : m_Dx l (m_EX E N xs) E mM_X8_soil (d + 1) 1 6 [.ref 0, .int (nI a), .int (nI b), .int x] (k_U fr gt pn yr wg se sw n g rp rq f so nx pl mL qL mS qS sb cnt fd bw F sqs bu wb o) tg "java/lang/IllegalArgumentException" (k_U fr gt pn yr wg se sw n g rp rq f so nx pl mL qL mS qS sb cnt fd bw F sqs bu wb o) := by
  have hM := mM_X8_soil_ok
  refine m_Sp_of (by decide) (Nat.le_of_ble_eq_true rfl) ?_
  refine m_J_run hM 1 rfl ⟨trivial, trivial⟩ ?_
  refine m_callS (as := [.int (nI a)]) (rest := []) (m_EX_warm E N xs) hM rfl kw_X8_94 rfl (x_cs ha) rfl (Nat.le_of_ble_eq_true rfl) (Nat.le_of_ble_eq_true rfl) (Nat.le_of_ble_eq_true rfl) (fun ht => ⟨ht, Nat.le_refl _⟩) ?_
  refine m_J_run hM 1 rfl ⟨trivial, trivial⟩ ?_
  refine m_callS (as := [.int (nI b)]) (rest := []) (m_EX_warm E N xs) hM rfl kw_X8_94 rfl (x_cs hb) rfl (Nat.le_of_ble_eq_true rfl) (Nat.le_of_ble_eq_true rfl) (Nat.le_of_ble_eq_true rfl) (fun ht => ⟨ht, Nat.le_refl _⟩) ?_
  refine m_J_run hM 2 rfl ⟨trivial, trivial, trivial⟩ ?_
  refine m_J_if (fun hc => ?_) (fun hc => ?_)
  · exact m_J_throw (si := 2) (nm := "java/lang/IllegalArgumentException") (rest := []) hl hM rfl rfl rfl rfl rfl rfl rfl kt_IA (Nat.le_of_ble_eq_true rfl) (Nat.le_of_ble_eq_true rfl) (Nat.le_of_ble_eq_true rfl) ⟨rfl, rfl⟩
  refine m_J_run hM 3 rfl ⟨trivial, trivial, trivial, trivial⟩ ?_
  refine m_J_if (fun hc2 => absurd hc2 (hx.resolve_left hc)) (fun _ => ?_)
  exact m_J_throw (si := 2) (nm := "java/lang/IllegalArgumentException") (rest := []) hl hM rfl rfl rfl rfl rfl rfl rfl kt_IA (Nat.le_of_ble_eq_true rfl) (Nat.le_of_ble_eq_true rfl) (Nat.le_of_ble_eq_true rfl) ⟨rfl, rfl⟩
set_option maxHeartbeats 2000000 in
theorem x_free {a : Nat} {b : Bool} (ha : a < 60) (h1 : k_has fr a ≠ b) (h2 : b = true → k_pc fr < nI 5) : m_Dt l (m_EX E N xs) E mM_X8_free (d + 2) 0 0 [.ref 0, .int (nI a), .int (k_z b)] (k_U fr gt pn yr wg se sw n g rp rq f so nx pl mL qL mS qS sb cnt fd bw F sqs bu wb o) tg (some (.int (nI 1))) (k_U (fr ^^^ k_only a) gt pn yr wg (false) sw n g rp rq f so nx pl mL qL mS qS sb cnt fd bw F sqs bu wb o) tg := by
  have hM := mM_X8_free_ok
  refine m_Sp_of (by decide) (Nat.le_of_ble_eq_true rfl) ?_
  refine m_J_run hM 1 rfl ⟨trivial, trivial⟩ ?_
  refine m_callS (as := [.int (nI a)]) (rest := []) (m_EX_warm E N xs) hM rfl kw_X8_94 rfl (x_cs ha) rfl (Nat.le_of_ble_eq_true rfl) (Nat.le_of_ble_eq_true rfl) (Nat.le_of_ble_eq_true rfl) (fun ht => ⟨ht, Nat.le_refl _⟩) ?_
  refine m_J_run hM 1 rfl ⟨trivial, trivial⟩ ?_
  refine m_J_getf hM rfl rfl (rfl) (rfl) ?_
  refine m_J_run hM 1 rfl ⟨trivial, trivial⟩ ?_
  refine m_callS (as := [.long fr, .int (nI a)]) (rest := []) (m_EX_warm E N xs) hM rfl kw_X8_123 rfl (s_has fr a) rfl (Nat.le_of_ble_eq_true rfl) (Nat.le_of_ble_eq_true rfl) (Nat.le_of_ble_eq_true rfl) (fun ht => ⟨ht, Nat.le_refl _⟩) ?_
  refine m_J_run hM 2 rfl ⟨trivial, trivial, trivial⟩ ?_
  refine m_J_if (fun _ => ?_) (fun hc => absurd (by cases hb : k_has fr a <;> cases b <;> first | decide | exact absurd hb h1) hc)
  refine m_J_join (S2 := (35, [some (.ref 0), some (.int (nI a)), some (.int (k_z b))], [], (k_U fr gt pn yr wg se sw n g rp rq f so nx pl mL qL mS qS sb cnt fd bw F sqs bu wb o))) ?_ ?_
  · intro hJ
    refine m_J_run hM 2 rfl ⟨trivial, trivial, trivial⟩ ?_
    cases b with
    | false =>
      refine m_J_if (fun _ => ?_) (fun hc => absurd (rfl) hc)
      exact hJ
    | true =>
      refine m_J_if (fun hc => absurd hc (by decide)) (fun _ => ?_)
      refine m_J_run hM 1 rfl ⟨trivial, trivial⟩ ?_
      refine m_J_getf hM rfl rfl (rfl) (rfl) ?_
      refine m_callS (as := [.long fr]) (rest := []) (m_EX_warm E N xs) hM rfl kw_X8_127 rfl (s_pc fr) rfl (Nat.le_of_ble_eq_true rfl) (Nat.le_of_ble_eq_true rfl) (Nat.le_of_ble_eq_true rfl) (fun ht => ⟨ht, Nat.le_refl _⟩) ?_
      refine m_J_run hM 2 rfl ⟨trivial, trivial, trivial⟩ ?_
      refine m_J_if (fun _ => ?_) (fun hc => absurd (h2 rfl) hc)
      exact hJ
  refine m_J_run hM 2 rfl ⟨trivial, trivial, trivial⟩ ?_
  refine m_J_putf hM rfl rfl (rfl) (rfl) ?_
  refine m_J_run hM 2 rfl ⟨trivial, trivial, trivial⟩ ?_
  refine m_J_getf hM rfl rfl (rfl) (rfl) ?_
  refine m_J_run hM 1 rfl ⟨trivial, trivial⟩ ?_
  refine m_callS (as := [.int (nI a)]) (rest := [.long fr, .ref 0]) (m_EX_warm E N xs) hM rfl kw_X8_133 rfl (s_only a) rfl (Nat.le_of_ble_eq_true rfl) (Nat.le_of_ble_eq_true rfl) (Nat.le_of_ble_eq_true rfl) (fun ht => ⟨ht, Nat.le_refl _⟩) ?_
  refine m_J_run hM 1 rfl ⟨trivial, trivial⟩ ?_
  refine m_J_putf hM rfl rfl (rfl) (rfl) ?_
  refine m_J_run hM 1 rfl ⟨trivial, trivial⟩ ?_
  exact m_iret hM rfl rfl (by decide) (Nat.le_of_ble_eq_true rfl) (Nat.le_of_ble_eq_true rfl) (rfl) (rfl)
set_option maxHeartbeats 2000000 in
theorem x_free_n {a : Nat} {b : Bool} (ha : a < 60) (hx : k_has fr a = b ∨ (b = true ∧ ¬ k_pc fr < nI 5)) : m_Dt l (m_EX E N xs) E mM_X8_free (d + 2) 0 0 [.ref 0, .int (nI a), .int (k_z b)] (k_U fr gt pn yr wg se sw n g rp rq f so nx pl mL qL mS qS sb cnt fd bw F sqs bu wb o) tg (some (.int (nI 0))) (k_U fr gt pn yr wg se sw n g rp rq f so nx pl mL qL mS qS sb cnt fd bw F sqs bu wb o) tg := by
  have hM := mM_X8_free_ok
  refine m_Sp_of (by decide) (Nat.le_of_ble_eq_true rfl) ?_
  refine m_J_run hM 1 rfl ⟨trivial, trivial⟩ ?_
  refine m_callS (as := [.int (nI a)]) (rest := []) (m_EX_warm E N xs) hM rfl kw_X8_94 rfl (x_cs ha) rfl (Nat.le_of_ble_eq_true rfl) (Nat.le_of_ble_eq_true rfl) (Nat.le_of_ble_eq_true rfl) (fun ht => ⟨ht, Nat.le_refl _⟩) ?_
  refine m_J_run hM 1 rfl ⟨trivial, trivial⟩ ?_
  refine m_J_getf hM rfl rfl (rfl) (rfl) ?_
  refine m_J_run hM 1 rfl ⟨trivial, trivial⟩ ?_
  refine m_callS (as := [.long fr, .int (nI a)]) (rest := []) (m_EX_warm E N xs) hM rfl kw_X8_123 rfl (s_has fr a) rfl (Nat.le_of_ble_eq_true rfl) (Nat.le_of_ble_eq_true rfl) (Nat.le_of_ble_eq_true rfl) (fun ht => ⟨ht, Nat.le_refl _⟩) ?_
  refine m_J_run hM 2 rfl ⟨trivial, trivial, trivial⟩ ?_
  by_cases h1 : k_has fr a = b
  · refine m_J_if (fun hc => absurd hc (fun q => q (by rw [h1]))) (fun _ => ?_)
    refine m_J_run hM 1 rfl ⟨trivial, trivial⟩ ?_
    exact m_iret hM rfl rfl (by decide) (Nat.le_of_ble_eq_true rfl) (Nat.le_of_ble_eq_true rfl) (rfl) (rfl)
  have h2 := hx.resolve_left h1
  obtain ⟨rfl, h3⟩ := h2
  refine m_J_if (fun _ => ?_) (fun hc => absurd (by rw [Bool.eq_false_iff.mpr h1]; decide) hc)
  refine m_J_run hM 2 rfl ⟨trivial, trivial, trivial⟩ ?_
  refine m_J_if (fun hc => absurd hc (by decide)) (fun _ => ?_)
  refine m_J_run hM 1 rfl ⟨trivial, trivial⟩ ?_
  refine m_J_getf hM rfl rfl (rfl) (rfl) ?_
  refine m_callS (as := [.long fr]) (rest := []) (m_EX_warm E N xs) hM rfl kw_X8_127 rfl (s_pc fr) rfl (Nat.le_of_ble_eq_true rfl) (Nat.le_of_ble_eq_true rfl) (Nat.le_of_ble_eq_true rfl) (fun ht => ⟨ht, Nat.le_refl _⟩) ?_
  refine m_J_run hM 2 rfl ⟨trivial, trivial, trivial⟩ ?_
  refine m_J_if (fun hc => absurd hc (h3)) (fun _ => ?_)
  refine m_J_run hM 1 rfl ⟨trivial, trivial⟩ ?_
  exact m_iret hM rfl rfl (by decide) (Nat.le_of_ble_eq_true rfl) (Nat.le_of_ble_eq_true rfl) (rfl) (rfl)
set_option maxHeartbeats 2000000 in
theorem x_free_1 (hl : l.stackTraces = false) {x y : Int32} (hx : x < 0 ∨ ¬ x < nI 60) : m_Dx l (m_EX E N xs) E mM_X8_free (d + 1) 1 6 [.ref 0, .int x, .int y] (k_U fr gt pn yr wg se sw n g rp rq f so nx pl mL qL mS qS sb cnt fd bw F sqs bu wb o) tg "java/lang/IndexOutOfBoundsException" (k_U fr gt pn yr wg se sw n g rp rq f so nx pl mL qL mS qS sb cnt fd bw F sqs bu wb o) := by
  have hM := mM_X8_free_ok
  refine m_Sp_of (by decide) (Nat.le_of_ble_eq_true rfl) ?_
  refine m_J_run hM 1 rfl ⟨trivial, trivial⟩ ?_
  exact m_callSx (as := [.int x]) (rest := []) (m_EX_warm E N xs) hM rfl kw_X8_94 rfl (x_cs_x hl hx) rfl (Nat.le_of_ble_eq_true rfl) (Nat.le_of_ble_eq_true rfl) (Nat.le_of_ble_eq_true rfl) rfl (⟨rfl, rfl⟩)
set_option maxHeartbeats 2000000 in
theorem x_gate {a : Nat} (ha : a < 60) : m_Dt l (m_EX E N xs) E mM_X8_gate (d + 1) 0 0 [.ref 0, .int (nI a)] (k_U fr gt pn yr wg se sw n g rp rq f so nx pl mL qL mS qS sb cnt fd bw F sqs bu wb o) tg (none) (k_U fr (a) pn yr wg se sw n g rp rq f so nx pl mL qL mS qS sb cnt fd bw F sqs bu wb o) tg := by
  have hM := mM_X8_gate_ok
  refine m_Sp_of (by decide) (Nat.le_of_ble_eq_true rfl) ?_
  refine m_J_run hM 1 rfl ⟨trivial, trivial⟩ ?_
  refine m_callS (as := [.int (nI a)]) (rest := []) (m_EX_warm E N xs) hM rfl kw_X8_94 rfl (x_cs ha) rfl (Nat.le_of_ble_eq_true rfl) (Nat.le_of_ble_eq_true rfl) (Nat.le_of_ble_eq_true rfl) (fun ht => ⟨ht, Nat.le_refl _⟩) ?_
  refine m_J_run hM 2 rfl ⟨trivial, trivial, trivial⟩ ?_
  refine m_J_putf hM rfl rfl (rfl) (rfl) ?_
  exact m_vret hM rfl rfl (Nat.le_of_ble_eq_true rfl) (Nat.le_of_ble_eq_true rfl) (rfl)
set_option maxHeartbeats 2000000 in
theorem x_gate_1 (hl : l.stackTraces = false) {x : Int32} (hx : x < 0 ∨ ¬ x < nI 60) : m_Dx l (m_EX E N xs) E mM_X8_gate (d + 1) 1 6 [.ref 0, .int x] (k_U fr gt pn yr wg se sw n g rp rq f so nx pl mL qL mS qS sb cnt fd bw F sqs bu wb o) tg "java/lang/IndexOutOfBoundsException" (k_U fr gt pn yr wg se sw n g rp rq f so nx pl mL qL mS qS sb cnt fd bw F sqs bu wb o) := by
  have hM := mM_X8_gate_ok
  refine m_Sp_of (by decide) (Nat.le_of_ble_eq_true rfl) ?_
  refine m_J_run hM 1 rfl ⟨trivial, trivial⟩ ?_
  exact m_callSx (as := [.int x]) (rest := []) (m_EX_warm E N xs) hM rfl kw_X8_94 rfl (x_cs_x hl hx) rfl (Nat.le_of_ble_eq_true rfl) (Nat.le_of_ble_eq_true rfl) (Nat.le_of_ble_eq_true rfl) rfl (⟨rfl, rfl⟩)
set_option maxHeartbeats 2000000 in
theorem x_book (hn : n ≤ 400) (hm : mS ≤ 14) (hq : ∀ i, i < 14 → k_lok (qS i)) (hw : (k_ri g n qS).2.1.2 = -nI 1) : m_Dt l (m_EX E N xs) E mM_X8_book (d + 9) 0 0 [.ref 0] (k_U fr gt pn yr wg se sw n g rp rq f so nx pl mL qL mS qS sb cnt fd bw F sqs bu wb o) tg (some (.int (nI (k_ri g n qS).1))) (k_U fr gt pn yr (-nI 1) (false) (!sw) (0) g ((k_ri g n qS).2.1.1) ((k_ri g n qS).2.1.2) f so nx pl ((k_ri g n qS).1) ((k_ri g n qS).2.2) (mL) (qL) sb cnt fd bw F sqs bu wb o) tg := by
  have hM := mM_X8_book_ok
  refine m_Sp_of (by decide) (Nat.le_of_ble_eq_true rfl) ?_
  refine m_J_run hM 2 rfl ⟨trivial, trivial, trivial⟩ ?_
  refine m_J_getf hM rfl rfl (rfl) (rfl) ?_
  refine m_J_run hM 1 rfl ⟨trivial, trivial⟩ ?_
  refine m_J_getf hM rfl rfl (rfl) (rfl) ?_
  refine m_J_callV (as := [.ref (bif sw then 30 else 46)]) (rest := [.ref 0]) (m_EX_warm E N xs) hM rfl kw_X8_137 rfl rfl rfl rfl ⟨_, rfl, rfl⟩ (Nat.le_of_ble_eq_true rfl) (Nat.le_of_ble_eq_true rfl) (Nat.le_of_ble_eq_true rfl) (t_into (R := (rp, rq)) (fun i j _ _ e => by have e2 : (bif sw then 31 else 47) + 1 + i = (bif sw then 31 else 47) + 1 + j := e; omega) (k_U_BS hm hq) (k_U_TP hn)) (fun v9 h9 tg9 hp9 => ?_) (fun nm h9 hp => hp.elim)
  obtain ⟨rfl, rfl, p1, p2, p3⟩ := hp9
  refine ⟨fun ht => ⟨ht, by rw [p3.1]; exact Nat.le_refl _⟩, ?_⟩
  have e9 : h9 = (k_U fr gt pn yr wg se sw n g ((k_ri g n qS).2.1.1) ((k_ri g n qS).2.1.2) f so nx pl mL qL ((k_ri g n qS).1) ((k_ri g n qS).2.2) sb cnt fd bw F sqs bu wb o) := by
    have p4 := k_fr_set p3 p1.1
    have p5 := k_fr_set p4 p2.1
    replace p5 : k_fr [(bif sw then 31 else 47) + 1 + 0, (bif sw then 31 else 47) + 1 + 1, (bif sw then 31 else 47) + 1 + 2, (bif sw then 31 else 47) + 1 + 3, (bif sw then 31 else 47) + 1 + 4, (bif sw then 31 else 47) + 1 + 5, (bif sw then 31 else 47) + 1 + 6, (bif sw then 31 else 47) + 1 + 7, (bif sw then 31 else 47) + 1 + 8, (bif sw then 31 else 47) + 1 + 9, (bif sw then 31 else 47) + 1 + 10, (bif sw then 31 else 47) + 1 + 11, (bif sw then 31 else 47) + 1 + 12, (bif sw then 31 else 47) + 1 + 13] _ _ := p5
    replace p5 := k_fr_set p5 (p2.2.2.1 0 (by omega))
    replace p5 := k_fr_set p5 (p2.2.2.1 1 (by omega))
    replace p5 := k_fr_set p5 (p2.2.2.1 2 (by omega))
    replace p5 := k_fr_set p5 (p2.2.2.1 3 (by omega))
    replace p5 := k_fr_set p5 (p2.2.2.1 4 (by omega))
    replace p5 := k_fr_set p5 (p2.2.2.1 5 (by omega))
    replace p5 := k_fr_set p5 (p2.2.2.1 6 (by omega))
    replace p5 := k_fr_set p5 (p2.2.2.1 7 (by omega))
    replace p5 := k_fr_set p5 (p2.2.2.1 8 (by omega))
    replace p5 := k_fr_set p5 (p2.2.2.1 9 (by omega))
    replace p5 := k_fr_set p5 (p2.2.2.1 10 (by omega))
    replace p5 := k_fr_set p5 (p2.2.2.1 11 (by omega))
    replace p5 := k_fr_set p5 (p2.2.2.1 12 (by omega))
    replace p5 := k_fr_set p5 (p2.2.2.1 13 (by omega))
    rw [k_fr_nil p5]
    cases sw <;> rfl
  subst e9
  clear p1 p2 p3
  refine m_J_putf hM rfl rfl (rfl) (rfl) ?_
  refine m_J_run hM 1 rfl ⟨trivial, trivial⟩ ?_
  refine m_J_getf hM rfl rfl (rfl) (rfl) ?_
  refine m_J_run hM 1 rfl ⟨trivial, trivial⟩ ?_
  refine m_J_putf hM rfl rfl (rfl) (rfl) ?_
  refine m_J_run hM 1 rfl ⟨trivial, trivial⟩ ?_
  refine m_J_getf hM rfl rfl (rfl) (rfl) ?_
  refine m_J_run hM 2 rfl ⟨trivial, trivial, trivial⟩ ?_
  refine m_J_if (fun _ => ?_) (fun hc => absurd (hw) hc)
  refine m_J_run hM 1 rfl ⟨trivial, trivial⟩ ?_
  refine m_J_getf hM rfl rfl (rfl) (rfl) ?_
  refine m_J_run hM 3 rfl ⟨trivial, trivial, trivial, trivial⟩ ?_
  refine m_J_getf hM rfl rfl (rfl) (rfl) ?_
  refine m_J_putf hM rfl rfl (rfl) (rfl) ?_
  refine m_J_run hM 2 rfl ⟨trivial, trivial, trivial⟩ ?_
  refine m_J_putf hM rfl rfl (rfl) (rfl) ?_
  refine m_J_run hM 2 rfl ⟨trivial, trivial, trivial⟩ ?_
  refine m_J_putf hM rfl rfl (rfl) (rfl) ?_
  refine m_J_run hM 1 rfl ⟨trivial, trivial⟩ ?_
  refine m_J_getf hM rfl rfl (rfl) (rfl) ?_
  refine m_J_eqH (H' := (k_U fr gt pn yr (-nI 1) (false) (!sw) (0) g ((k_ri g n qS).2.1.1) ((k_ri g n qS).2.1.2) f so nx pl ((k_ri g n qS).1) ((k_ri g n qS).2.2) (mL) (qL) sb cnt fd bw F sqs bu wb o)) ?_ ?_
  · rw [hw]; cases sw <;> rfl
  refine m_J_getf hM rfl rfl ((by cases sw <;> rfl : (k_U fr gt pn yr (-nI 1) (false) (!sw) (0) g ((k_ri g n qS).2.1.1) ((k_ri g n qS).2.1.2) f so nx pl ((k_ri g n qS).1) ((k_ri g n qS).2.2) (mL) (qL) sb cnt fd bw F sqs bu wb o)[(bif sw then 30 else 46)]? = some (.inr (0, [.ref (bif sw then 31 else 47), .int (nI (k_ri g n qS).1)])))) (rfl) ?_
  exact m_iret hM rfl rfl rfl (Nat.le_of_ble_eq_true rfl) (Nat.le_of_ble_eq_true rfl) (rfl) (rfl)
set_option maxHeartbeats 2000000 in
theorem x_book_x (hl : l.stackTraces = false) (hn : n ≤ 400) (hm : mS ≤ 14) (hq : ∀ i, i < 14 → k_lok (qS i)) (hw : (k_ri g n qS).2.1.2 ≠ -nI 1) : m_Dx l (m_EX E N xs) E mM_X8_book (d + 9) 1 6 [.ref 0] (k_U fr gt pn yr wg se sw n g rp rq f so nx pl mL qL mS qS sb cnt fd bw F sqs bu wb o) tg "java/lang/IllegalArgumentException" (k_U fr gt pn yr ((k_ri g n qS).2.1.2) se sw (0) g ((k_ri g n qS).2.1.1) ((k_ri g n qS).2.1.2) f so nx pl mL qL ((k_ri g n qS).1) ((k_ri g n qS).2.2) sb cnt fd bw F sqs bu wb o) := by
  have hM := mM_X8_book_ok
  refine m_Sp_of (by decide) (Nat.le_of_ble_eq_true rfl) ?_
  refine m_J_run hM 2 rfl ⟨trivial, trivial, trivial⟩ ?_
  refine m_J_getf hM rfl rfl (rfl) (rfl) ?_
  refine m_J_run hM 1 rfl ⟨trivial, trivial⟩ ?_
  refine m_J_getf hM rfl rfl (rfl) (rfl) ?_
  refine m_J_callV (as := [.ref (bif sw then 30 else 46)]) (rest := [.ref 0]) (m_EX_warm E N xs) hM rfl kw_X8_137 rfl rfl rfl rfl ⟨_, rfl, rfl⟩ (Nat.le_of_ble_eq_true rfl) (Nat.le_of_ble_eq_true rfl) (Nat.le_of_ble_eq_true rfl) (t_into (R := (rp, rq)) (fun i j _ _ e => by have e2 : (bif sw then 31 else 47) + 1 + i = (bif sw then 31 else 47) + 1 + j := e; omega) (k_U_BS hm hq) (k_U_TP hn)) (fun v9 h9 tg9 hp9 => ?_) (fun nm h9 hp => hp.elim)
  obtain ⟨rfl, rfl, p1, p2, p3⟩ := hp9
  refine ⟨fun ht => ⟨ht, by rw [p3.1]; exact Nat.le_refl _⟩, ?_⟩
  have e9 : h9 = (k_U fr gt pn yr wg se sw n g ((k_ri g n qS).2.1.1) ((k_ri g n qS).2.1.2) f so nx pl mL qL ((k_ri g n qS).1) ((k_ri g n qS).2.2) sb cnt fd bw F sqs bu wb o) := by
    have p4 := k_fr_set p3 p1.1
    have p5 := k_fr_set p4 p2.1
    replace p5 : k_fr [(bif sw then 31 else 47) + 1 + 0, (bif sw then 31 else 47) + 1 + 1, (bif sw then 31 else 47) + 1 + 2, (bif sw then 31 else 47) + 1 + 3, (bif sw then 31 else 47) + 1 + 4, (bif sw then 31 else 47) + 1 + 5, (bif sw then 31 else 47) + 1 + 6, (bif sw then 31 else 47) + 1 + 7, (bif sw then 31 else 47) + 1 + 8, (bif sw then 31 else 47) + 1 + 9, (bif sw then 31 else 47) + 1 + 10, (bif sw then 31 else 47) + 1 + 11, (bif sw then 31 else 47) + 1 + 12, (bif sw then 31 else 47) + 1 + 13] _ _ := p5
    replace p5 := k_fr_set p5 (p2.2.2.1 0 (by omega))
    replace p5 := k_fr_set p5 (p2.2.2.1 1 (by omega))
    replace p5 := k_fr_set p5 (p2.2.2.1 2 (by omega))
    replace p5 := k_fr_set p5 (p2.2.2.1 3 (by omega))
    replace p5 := k_fr_set p5 (p2.2.2.1 4 (by omega))
    replace p5 := k_fr_set p5 (p2.2.2.1 5 (by omega))
    replace p5 := k_fr_set p5 (p2.2.2.1 6 (by omega))
    replace p5 := k_fr_set p5 (p2.2.2.1 7 (by omega))
    replace p5 := k_fr_set p5 (p2.2.2.1 8 (by omega))
    replace p5 := k_fr_set p5 (p2.2.2.1 9 (by omega))
    replace p5 := k_fr_set p5 (p2.2.2.1 10 (by omega))
    replace p5 := k_fr_set p5 (p2.2.2.1 11 (by omega))
    replace p5 := k_fr_set p5 (p2.2.2.1 12 (by omega))
    replace p5 := k_fr_set p5 (p2.2.2.1 13 (by omega))
    rw [k_fr_nil p5]
    cases sw <;> rfl
  subst e9
  clear p1 p2 p3
  refine m_J_putf hM rfl rfl (rfl) (rfl) ?_
  refine m_J_run hM 1 rfl ⟨trivial, trivial⟩ ?_
  refine m_J_getf hM rfl rfl (rfl) (rfl) ?_
  refine m_J_run hM 1 rfl ⟨trivial, trivial⟩ ?_
  refine m_J_putf hM rfl rfl (rfl) (rfl) ?_
  refine m_J_run hM 1 rfl ⟨trivial, trivial⟩ ?_
  refine m_J_getf hM rfl rfl (rfl) (rfl) ?_
  refine m_J_run hM 2 rfl ⟨trivial, trivial, trivial⟩ ?_
  refine m_J_if (fun hc => absurd hc (hw)) (fun _ => ?_)
  exact m_J_throw (si := 19) (nm := "java/lang/IllegalArgumentException") (rest := []) hl hM rfl rfl rfl rfl rfl rfl rfl kt_IA (Nat.le_of_ble_eq_true rfl) (Nat.le_of_ble_eq_true rfl) (Nat.le_of_ble_eq_true rfl) ⟨rfl, rfl⟩
set_option maxHeartbeats 2000000 in
theorem x_fault  : m_Dt l (m_EX E N xs) E mM_X8_fault d 0 0 [.ref 0] (k_U fr gt pn yr wg se sw n g rp rq f so nx pl mL qL mS qS sb cnt fd bw F sqs bu wb o) tg (some (.int wg)) (k_U fr gt pn yr wg se sw n g rp rq f so nx pl mL qL mS qS sb cnt fd bw F sqs bu wb o) tg := by
  have hM := mM_X8_fault_ok
  refine m_Sp_of (by decide) (Nat.le_of_ble_eq_true rfl) ?_
  refine m_J_run hM 1 rfl ⟨trivial, trivial⟩ ?_
  refine m_J_getf hM rfl rfl (rfl) (rfl) ?_
  exact m_iret hM rfl rfl rfl (Nat.le_of_ble_eq_true rfl) (Nat.le_of_ble_eq_true rfl) (rfl) (rfl)
set_option maxHeartbeats 2000000 in
theorem x_worth (hm : mL ≤ 14) (hq : ∀ i, i < 14 → k_lok (qL i)) : m_Dt l (m_EX E N xs) E mM_X8_worth (d + 5) 0 0 [.ref 0] (k_U fr gt pn yr wg se sw n g rp rq f so nx pl mL qL mS qS sb cnt fd bw F sqs bu wb o) tg (some (.int (k_sum (fun i => k_lw (qL i) f so) mL))) (k_U fr gt pn yr wg se sw n g rp rq f so nx pl mL qL mS qS sb cnt fd bw F sqs bu wb o) tg := by
  have hM := mM_X8_worth_ok
  refine m_Sp_of (by decide) (Nat.le_of_ble_eq_true rfl) ?_
  refine m_J_run hM 1 rfl ⟨trivial, trivial⟩ ?_
  refine m_J_getf hM rfl rfl (rfl) (rfl) ?_
  refine m_J_run hM 1 rfl ⟨trivial, trivial⟩ ?_
  refine m_J_getf hM rfl rfl (rfl) (rfl) ?_
  refine m_callV (as := [.ref 4]) (rest := []) (m_EX_warm E N xs) hM rfl kw_X8_146 rfl rfl (k_U_cnt.1) ⟨_, rfl, rfl⟩ (b_worth (k_U_BL hm hq) k_U_LD) rfl (Nat.le_of_ble_eq_true rfl) (Nat.le_of_ble_eq_true rfl) (Nat.le_of_ble_eq_true rfl) (fun ht => ⟨ht, by simp⟩) ?_
  exact m_iret hM rfl rfl rfl (Nat.le_of_ble_eq_true rfl) (Nat.le_of_ble_eq_true rfl) (rfl) (rfl)
set_option maxHeartbeats 2000000 in
theorem x_broken (hm : mL ≤ 14) (hq : ∀ i, i < 14 → k_lok (qL i)) : m_Dt l (m_EX E N xs) E mM_X8_broken (d + 6) 0 0 [.ref 0] (k_U fr gt pn yr wg se sw n g rp rq f so nx pl mL qL mS qS sb cnt fd bw F sqs bu wb o) tg (some (.int (k_fb qL f mL 0))) (k_U fr gt pn yr wg se sw n g rp rq f so nx pl mL qL mS qS sb cnt fd bw F sqs bu wb o) tg := by
  have hM := mM_X8_broken_ok
  refine m_Sp_of (by decide) (Nat.le_of_ble_eq_true rfl) ?_
  refine m_J_run hM 1 rfl ⟨trivial, trivial⟩ ?_
  refine m_J_getf hM rfl rfl (rfl) (rfl) ?_
  refine m_J_run hM 1 rfl ⟨trivial, trivial⟩ ?_
  refine m_J_getf hM rfl rfl (rfl) (rfl) ?_
  refine m_callV (as := [.ref 4]) (rest := []) (m_EX_warm E N xs) hM rfl kw_X8_160 rfl rfl (k_U_cnt.1) ⟨_, rfl, rfl⟩ (b_first (k_U_BL hm hq) k_U_LD) rfl (Nat.le_of_ble_eq_true rfl) (Nat.le_of_ble_eq_true rfl) (Nat.le_of_ble_eq_true rfl) (fun ht => ⟨ht, by simp⟩) ?_
  exact m_iret hM rfl rfl rfl (Nat.le_of_ble_eq_true rfl) (Nat.le_of_ble_eq_true rfl) (rfl) (rfl)
set_option maxHeartbeats 2000000 in
theorem x_adds {a : Nat} (ha : a < mL) (hm : mL ≤ 14) (hq : ∀ i, i < 14 → k_lok (qL i)) : m_Dt l (m_EX E N xs) E mM_X8_adds (d + 4) 0 0 [.ref 0, .int (nI a)] (k_U fr gt pn yr wg se sw n g rp rq f so nx pl mL qL mS qS sb cnt fd bw F sqs bu wb o) tg (some (.int (k_lw (qL a) f so))) (k_U fr gt pn yr wg se sw n g rp rq f so nx pl mL qL mS qS sb cnt fd bw F sqs bu wb o) tg := by
  have hM := mM_X8_adds_ok
  refine m_Sp_of (by decide) (Nat.le_of_ble_eq_true rfl) ?_
  refine m_J_run hM 2 rfl ⟨trivial, trivial, trivial⟩ ?_
  refine m_callV (as := [.int (nI a)]) (rest := []) (m_EX_warm E N xs) hM rfl kw_X8_150 rfl rfl (rfl) ⟨_, rfl, rfl⟩ (x_checkLine ha (by omega)) rfl (Nat.le_of_ble_eq_true rfl) (Nat.le_of_ble_eq_true rfl) (Nat.le_of_ble_eq_true rfl) (fun ht => ⟨ht, by simp⟩) ?_
  refine m_J_run hM 1 rfl ⟨trivial, trivial⟩ ?_
  refine m_J_getf hM rfl rfl (rfl) (rfl) ?_
  refine m_J_getf hM rfl rfl (k_U_cnt.1) (rfl) ?_
  refine m_J_run hM 1 rfl ⟨trivial, trivial⟩ ?_
  refine m_aaldN hM rfl ((k_U_BL hm hq).2.1) rfl (if_pos (show a < 14 by omega)) (by omega) (by omega) ?_
  refine m_J_run hM 1 rfl ⟨trivial, trivial⟩ ?_
  refine m_J_getf hM rfl rfl (rfl) (rfl) ?_
  refine m_callV (as := [.ref 4]) (rest := []) (m_EX_warm E N xs) hM rfl kw_X8_157 rfl rfl ((k_U_BL hm hq).2.2.1 a (by omega)) ⟨_, rfl, rfl⟩ (i_worth (hq a (by omega)) ((k_U_BL hm hq).2.2.1 a (by omega)) k_U_LD) rfl (Nat.le_of_ble_eq_true rfl) (Nat.le_of_ble_eq_true rfl) (Nat.le_of_ble_eq_true rfl) (fun ht => ⟨ht, by simp⟩) ?_
  exact m_iret hM rfl rfl rfl (Nat.le_of_ble_eq_true rfl) (Nat.le_of_ble_eq_true rfl) (rfl) (rfl)
set_option maxHeartbeats 2000000 in
theorem x_adds_x (hl : l.stackTraces = false) {x : Int32} (hx : x < 0 ∨ ¬ x < nI mL) : m_Dx l (m_EX E N xs) E mM_X8_adds (d + 1) 1 6 [.ref 0, .int x] (k_U fr gt pn yr wg se sw n g rp rq f so nx pl mL qL mS qS sb cnt fd bw F sqs bu wb o) tg "java/lang/IndexOutOfBoundsException" (k_U fr gt pn yr wg se sw n g rp rq f so nx pl mL qL mS qS sb cnt fd bw F sqs bu wb o) := by
  have hM := mM_X8_adds_ok
  refine m_Sp_of (by decide) (Nat.le_of_ble_eq_true rfl) ?_
  refine m_J_run hM 2 rfl ⟨trivial, trivial, trivial⟩ ?_
  exact m_callVx (as := [.int x]) (rest := []) (m_EX_warm E N xs) hM rfl kw_X8_150 rfl rfl (rfl) ⟨_, rfl, rfl⟩ (x_checkLine_x hl hx) rfl (Nat.le_of_ble_eq_true rfl) (Nat.le_of_ble_eq_true rfl) (Nat.le_of_ble_eq_true rfl) rfl (⟨rfl, rfl⟩)
def k_yr (q : Nat → kL) (m : Nat) : Nat → (Nat → Int64) × (Nat → Int64) × Nat → (Nat → Int64) × (Nat → Int64) × Nat
  | 0, S => S
  | k + 1, S => if S.2.2 < 1000 then k_yr q m k (k_upto (k_g60 q S.1 (k_upto S.1 S.2.1 5) m 60) S.1 5, k_g60 q S.1 (k_upto S.1 S.2.1 5) m 60, S.2.2 + 1) else S
set_option maxHeartbeats 2000000 in
theorem x_years {a : Nat} (ha : a ≤ 20) (hy : yr ≤ 1000) (hm : mL ≤ 14) (hq : ∀ i, i < 14 → k_lok (qL i)) : m_Dt l (m_EX E N xs) E mM_X8_years (d + 4) 0 0 [.ref 0, .int (nI a)] (k_U fr gt pn yr wg se sw n g rp rq f so nx pl mL qL mS qS sb cnt fd bw F sqs bu wb o) tg (some (.int (nI (k_yr qL mL a (f, nx, yr)).2.2))) (k_U fr gt pn ((k_yr qL mL a (f, nx, yr)).2.2) wg (false) sw n g rp rq ((k_yr qL mL a (f, nx, yr)).1) so ((k_yr qL mL a (f, nx, yr)).2.1) pl mL qL mS qS sb cnt fd bw F sqs bu wb o) tg := by
  have hM := mM_X8_years_ok
  refine m_Sp_of (by decide) (Nat.le_of_ble_eq_true rfl) ?_
  refine m_J_run hM 2 rfl ⟨trivial, trivial, trivial⟩ ?_
  refine m_J_if (fun hc => absurd hc (nI_pos (by omega))) (fun _ => ?_)
  refine m_J_run hM 3 rfl ⟨trivial, trivial, trivial, trivial⟩ ?_
  refine m_J_if (fun _ => ?_) (fun hc => absurd (nI_le ha (by omega)) hc)
  refine m_J_run hM 2 rfl ⟨trivial, trivial, trivial⟩ ?_
  refine m_J_putf hM rfl rfl (rfl) (rfl) ?_
  refine m_J_run hM 2 rfl ⟨trivial, trivial, trivial⟩ ?_
  have loop : ∀ (k i : Nat) (S : (Nat → Int64) × (Nat → Int64) × Nat), i + k = a → S.2.2 ≤ 1000 → k_yr qL mL k S = (k_yr qL mL a (f, nx, yr)) → m_J l (m_EX E N xs) E mM_X8_years (d + 4) 0 0 (m_K (some (.int (nI (k_yr qL mL a (f, nx, yr)).2.2))) (k_U fr gt pn ((k_yr qL mL a (f, nx, yr)).2.2) wg (false) sw n g rp rq ((k_yr qL mL a (f, nx, yr)).1) so ((k_yr qL mL a (f, nx, yr)).2.1) pl mL qL mS qS sb cnt fd bw F sqs bu wb o) tg) m_no tg 0 0 (27, [some (.ref 0), some (.int (nI a)), some (.int (nI i))], [], (k_U fr gt pn (S.2.2) wg (false) sw n g rp rq (S.1) so (S.2.1) pl mL qL mS qS sb cnt fd bw F sqs bu wb o)) := by
    intro k
    induction k with
    | zero =>
      intro i S hi hS he
      rw [k_yr] at he
      have e : i = a := by omega
      subst e
      refine m_J_run hM 3 rfl ⟨trivial, trivial, trivial, trivial⟩ ?_
      refine m_J_if (fun _ => ?_) (fun hc => absurd (nI_le (Nat.le_refl _) (by omega)) hc)
      refine m_J_run hM 1 rfl ⟨trivial, trivial⟩ ?_
      refine m_J_getf hM rfl rfl (rfl) (rfl) ?_
      rw [← he]
      exact m_iret hM rfl rfl rfl (Nat.le_of_ble_eq_true rfl) (Nat.le_of_ble_eq_true rfl) (rfl) (rfl)
    | succ k ih =>
      intro i S hi hS he
      rw [k_yr] at he
      refine m_J_run hM 3 rfl ⟨trivial, trivial, trivial, trivial⟩ ?_
      refine m_J_if (fun hc => absurd hc (nI_ge (by omega) (by omega))) (fun _ => ?_)
      refine m_J_run hM 1 rfl ⟨trivial, trivial⟩ ?_
      refine m_J_getf hM rfl rfl (rfl) (rfl) ?_
      refine m_J_run hM 2 rfl ⟨trivial, trivial, trivial⟩ ?_
      by_cases hlt : S.2.2 < 1000
      · refine m_J_if (fun hc => absurd hc (nI_ge hlt (by omega))) (fun _ => ?_)
        rw [if_pos hlt] at he
        refine m_J_run hM 1 rfl ⟨trivial, trivial⟩ ?_
        refine m_J_getf hM rfl rfl (rfl) (rfl) ?_
        refine m_J_run hM 1 rfl ⟨trivial, trivial⟩ ?_
        refine m_J_getf hM rfl rfl (rfl) (rfl) ?_
        refine m_J_run hM 1 rfl ⟨trivial, trivial⟩ ?_
        refine m_J_getf hM rfl rfl (rfl) (rfl) ?_
        refine m_callV (as := [.ref 15, .ref 4]) (rest := []) (m_EX_warm E N xs) hM rfl kw_X8_165 rfl rfl (k_U_cnt.1) ⟨_, rfl, rfl⟩ (b_grow (b2 := 16) (g := S.2.1) (k_U_BL hm hq) (k_U_LD (f := S.1) (nx := S.2.1) (yr := S.2.2) (se := false)) rfl rfl (by decide)) rfl (Nat.le_of_ble_eq_true rfl) (Nat.le_of_ble_eq_true rfl) (Nat.le_of_ble_eq_true rfl) (fun ht => ⟨ht, by simp⟩) ?_
        refine m_J_eqH (H' := (k_U fr gt pn (S.2.2) wg (false) sw n g rp rq (S.1) so (k_g60 qL S.1 (k_upto S.1 S.2.1 5) mL 60) pl mL qL mS qS sb cnt fd bw F sqs bu wb o)) rfl ?_
        refine m_J_run hM 1 rfl ⟨trivial, trivial⟩ ?_
        refine m_J_getf hM rfl rfl (rfl) (rfl) ?_
        refine m_J_getf hM rfl rfl (rfl) (rfl) ?_
        refine m_J_run hM 1 rfl ⟨trivial, trivial⟩ ?_
        refine m_J_getf hM rfl rfl (rfl) (rfl) ?_
        refine m_callV (as := [.ref 15]) (rest := []) (m_EX_warm E N xs) hM rfl kw_X8_169 rfl rfl (rfl) ⟨_, rfl, rfl⟩ (u_become (b := 6) (b' := 16) (f := S.1) (g := k_g60 qL S.1 (k_upto S.1 S.2.1 5) mL 60) rfl rfl rfl rfl (by decide)) rfl (Nat.le_of_ble_eq_true rfl) (Nat.le_of_ble_eq_true rfl) (Nat.le_of_ble_eq_true rfl) (fun ht => ⟨ht, by simp⟩) ?_
        refine m_J_run hM 2 rfl ⟨trivial, trivial, trivial⟩ ?_
        refine m_J_getf hM rfl rfl (rfl) (rfl) ?_
        refine m_J_run hM 2 rfl ⟨trivial, trivial, trivial⟩ ?_
        refine m_J_putf hM rfl rfl (rfl) (rfl) ?_
        refine m_J_run hM 2 rfl ⟨trivial, trivial, trivial⟩ ?_
        rw [← k_succ i]
        refine m_J_eqH (H' := (k_U fr gt pn (S.2.2 + 1) wg (false) sw n g rp rq (k_upto (k_g60 qL S.1 (k_upto S.1 S.2.1 5) mL 60) S.1 5) so (k_g60 qL S.1 (k_upto S.1 S.2.1 5) mL 60) pl mL qL mS qS sb cnt fd bw F sqs bu wb o)) (by rw [← k_succ S.2.2]; rfl) ?_
        exact ih (i + 1) (k_upto (k_g60 qL S.1 (k_upto S.1 S.2.1 5) mL 60) S.1 5, k_g60 qL S.1 (k_upto S.1 S.2.1 5) mL 60, S.2.2 + 1) (by omega) hlt he
      · refine m_J_if (fun _ => ?_) (fun hc => absurd (nI_le (by omega) (by omega)) hc)
        rw [if_neg hlt] at he
        refine m_J_run hM 1 rfl ⟨trivial, trivial⟩ ?_
        refine m_J_getf hM rfl rfl (rfl) (rfl) ?_
        rw [← he]
        exact m_iret hM rfl rfl rfl (Nat.le_of_ble_eq_true rfl) (Nat.le_of_ble_eq_true rfl) (rfl) (rfl)
  exact loop a 0 (f, nx, yr) (by omega) hy rfl
set_option maxHeartbeats 2000000 in
theorem x_years_x (hl : l.stackTraces = false) {x : Int32} (hx : x < 0 ∨ ¬ x ≤ nI 20) : m_Dx l (m_EX E N xs) E mM_X8_years d 1 6 [.ref 0, .int x] (k_U fr gt pn yr wg se sw n g rp rq f so nx pl mL qL mS qS sb cnt fd bw F sqs bu wb o) tg "java/lang/IllegalArgumentException" (k_U fr gt pn yr wg se sw n g rp rq f so nx pl mL qL mS qS sb cnt fd bw F sqs bu wb o) := by
  have hM := mM_X8_years_ok
  refine m_Sp_of (by decide) (Nat.le_of_ble_eq_true rfl) ?_
  refine m_J_run hM 2 rfl ⟨trivial, trivial, trivial⟩ ?_
  refine m_J_if (fun hc => ?_) (fun hc => ?_)
  · exact m_J_throw (si := 21) (nm := "java/lang/IllegalArgumentException") (rest := []) hl hM rfl rfl rfl rfl rfl rfl rfl kt_IA (Nat.le_of_ble_eq_true rfl) (Nat.le_of_ble_eq_true rfl) (Nat.le_of_ble_eq_true rfl) ⟨rfl, rfl⟩
  refine m_J_run hM 3 rfl ⟨trivial, trivial, trivial, trivial⟩ ?_
  refine m_J_if (fun hc2 => absurd hc2 (hx.resolve_left hc)) (fun _ => ?_)
  exact m_J_throw (si := 21) (nm := "java/lang/IllegalArgumentException") (rest := []) hl hM rfl rfl rfl rfl rfl rfl rfl kt_IA (Nat.le_of_ble_eq_true rfl) (Nat.le_of_ble_eq_true rfl) (Nat.le_of_ble_eq_true rfl) ⟨rfl, rfl⟩
end
end
