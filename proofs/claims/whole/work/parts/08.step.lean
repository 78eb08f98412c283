/-! ONE STEP of the small machine: written by wip/gen_step.py -/
theorem m_own {M : mM} (h : m_okM M = true) : m_owns.getD M.2.2.2.2.2.1 "" = M.1.cls := by
  simp only [m_okM, Bool.and_eq_true, decide_eq_true_eq] at h
  exact h.1
theorem m_dec {M : mM} (h : m_okM M = true) {pc t : Nat} {i : Instr} (hf : (m_tb M).lookup pc = some (i, t)) :
    ∃ n, decode M.2.1 pc = .ok (i, n) ∧ (m_sw i = false → n = m_len i) ∧ (∀ o, m_tgt i = some o → (pc : Int) + o = (t : Int)) ∧ ∀ v b, m_cv i = some (v, b) → v = bif b then nI t else -nI t := by
  have hm : (pc, i, t) ∈ m_tb M := by
    obtain ⟨l1, l2, e, -⟩ := List.lookup_eq_some_iff.mp hf
    rw [e]; simp
  simp only [m_okM, Bool.and_eq_true] at h
  have := List.all_eq_true.mp h.2 _ hm
  unfold m_okI at this
  dsimp only at this
  cases hd : decode M.2.1 pc with
  | error e => rw [hd] at this; cases this
  | ok q =>
    obtain ⟨i', n⟩ := q
    rw [hd] at this
    simp only [Bool.and_eq_true, Bool.or_eq_true, decide_eq_true_eq] at this
    obtain ⟨⟨⟨h1, h2⟩, h3⟩, h4⟩ := this
    subst h1
    refine ⟨n, rfl, fun hs => ?_, fun o ho => ?_, fun v b hv => ?_⟩
    · rcases h2 with h2 | h2
      · exact h2
      · rw [hs] at h2; cases h2
    · rw [ho] at h3
      exact of_decide_eq_true h3
    · rw [hv] at h4
      exact of_decide_eq_true h4
def m_ld (L : List (Option Value)) (i : Nat) : Option Value := match L[i]? with
  | some (some v) => some v
  | _ => none
def m_c2 (L : List (Option Value)) : Nat → Bool
  | 0 => false
  | j + 1 => match L[j]? with
    | some (some w) => w.category == 2
    | _ => false
def m_sto (L : List (Option Value)) (i : Nat) (v : Value) : Option (List (Option Value)) := bif Nat.blt i L.length && !(m_c2 L i) then some (L.set i (some v)) else none
def m_stoL (L : List (Option Value)) (i : Nat) (v : Value) : Option (List (Option Value)) := bif Nat.blt (i + 1) L.length && !(m_c2 L i) then some ((L.set i (some v)).set (i + 1) none) else none
theorem m_ld_at {E : mE} {ls : Array Slot} {nL : Nat} {L : List (Option Value)} (hL : m_L E ls nL L) {i : Nat} {v : Value} (h : m_ld L i = some v) : ls[i]? = some (Slot.val (m_v E v)) := by
  unfold m_ld at h
  split at h
  · cases h
    rename_i w hw
    exact hL.2.2.2 i _ hw
  · cases h
def m_al (E : mE) (L : List (Option Value)) : List (Nat × Value) := (List.range L.length).filterMap (fun i => (m_ld L i).map (fun v => (i, m_v E v)))
theorem m_al_mem {E : mE} {L : List (Option Value)} {q : Nat × Value} : q ∈ m_al E L ↔ ∃ v, m_ld L q.1 = some v ∧ q.2 = m_v E v := by
  unfold m_al
  rw [List.mem_filterMap]
  constructor
  · rintro ⟨i, hi, h⟩
    cases hl : m_ld L i with
    | none => rw [hl] at h; cases h
    | some v =>
      rw [hl] at h
      cases h
      exact ⟨v, hl, rfl⟩
  · rintro ⟨v, hv, e⟩
    refine ⟨q.1, ?_, by rw [hv, Option.map_some, ← e]⟩
    rw [List.mem_range]
    unfold m_ld at hv
    split at hv
    · rename_i w hw
      exact (List.getElem?_eq_some_iff.mp hw).1
    · cases hv
theorem m_al_has {E : mE} {ls : Array Slot} {nL : Nat} {L : List (Option Value)} (hL : m_L E ls nL L) : lv_has ls nL (m_al E L) :=
  ⟨hL.1, hL.2.1, fun q hq => by
    obtain ⟨v, hv, e⟩ := m_al_mem.mp hq
    rw [e]; exact m_ld_at hL hv⟩
theorem m_ld_get {L : List (Option Value)} {i : Nat} {v : Value} (h : L[i]? = some (some v)) : m_ld L i = some v := by unfold m_ld; rw [h]
theorem m_sto_L {E : mE} {ls' : Array Slot} {nL : Nat} {L L' : List (Option Value)} {i : Nat} {v : Value} (hl : L.length = nL) (hs : m_sto L i v = some L')
    (h : lv_has ls' nL ((i, m_v E v) :: (m_al E L).filter (fun q => !(q.1 == i) && !(q.1 + 1 == i && q.2.category == 2)))) : m_L E ls' nL L' := by
  unfold m_sto at hs
  cases hc : (Nat.blt i L.length && !(m_c2 L i)) with
  | false => rw [hc] at hs; cases hs
  | true =>
    rw [hc] at hs
    cases hs
    simp only [Bool.and_eq_true, Bool.not_eq_true'] at hc
    refine ⟨h.1, h.2.1, by simpa using hl, fun j w hw => ?_⟩
    by_cases hj : j = i
    · subst hj
      rw [List.getElem?_set_self (by simpa [Nat.blt_eq] using hc.1)] at hw
      cases hw
      exact h.2.2 (j, m_v E v) (by simp)
    · rw [List.getElem?_set_ne (by omega)] at hw
      refine h.2.2 (j, m_v E w) (List.mem_cons_of_mem _ (List.mem_filter.mpr ⟨m_al_mem.mpr ⟨w, m_ld_get hw, rfl⟩, ?_⟩))
      simp only [Bool.and_eq_true, Bool.not_eq_true']
      refine ⟨by simpa using hj, ?_⟩
      by_cases hi : j + 1 = i
      · subst hi
        have := hc.2
        simp only [m_c2, hw] at this
        simp [m_cat, this]
      · simp [hi]
theorem m_stoL_L {E : mE} {ls' : Array Slot} {nL : Nat} {L L' : List (Option Value)} {i : Nat} {v : Value} (hl : L.length = nL) (hs : m_stoL L i v = some L')
    (h : lv_has ls' nL ((i, m_v E v) :: (m_al E L).filter (fun q => !(q.1 == i) && (!(q.1 == i + 1) && !(q.1 + 1 == i && q.2.category == 2))))) : m_L E ls' nL L' := by
  unfold m_stoL at hs
  cases hc : (Nat.blt (i + 1) L.length && !(m_c2 L i)) with
  | false => rw [hc] at hs; cases hs
  | true =>
    rw [hc] at hs
    cases hs
    simp only [Bool.and_eq_true, Bool.not_eq_true'] at hc
    have hlt : i + 1 < L.length := by simpa [Nat.blt_eq] using hc.1
    refine ⟨h.1, h.2.1, by simpa using hl, fun j w hw => ?_⟩
    by_cases hj1 : j = i + 1
    · subst hj1
      rw [List.getElem?_set_self (by simpa using hlt)] at hw
      cases hw
    · rw [List.getElem?_set_ne (by omega)] at hw
      by_cases hj : j = i
      · subst hj
        rw [List.getElem?_set_self (by omega)] at hw
        cases hw
        exact h.2.2 (j, m_v E v) (by simp)
      · rw [List.getElem?_set_ne (by omega)] at hw
        refine h.2.2 (j, m_v E w) (List.mem_cons_of_mem _ (List.mem_filter.mpr ⟨m_al_mem.mpr ⟨w, m_ld_get hw, rfl⟩, ?_⟩))
        simp only [Bool.and_eq_true, Bool.not_eq_true']
        refine ⟨by simpa using hj, by simpa using hj1, ?_⟩
        by_cases hi : j + 1 = i
        · subst hi
          have := hc.2
          simp only [m_c2, hw] at this
          simp [m_cat, this]
        · simp [hi]
theorem m_sto_lt {L L' : List (Option Value)} {i : Nat} {v : Value} (hs : m_sto L i v = some L') : i < L.length := by
  unfold m_sto at hs
  cases hc : (Nat.blt i L.length && !(m_c2 L i)) with
  | false => rw [hc] at hs; cases hs
  | true =>
    simp only [Bool.and_eq_true] at hc
    simpa [Nat.blt_eq] using hc.1
theorem m_stoL_lt {L L' : List (Option Value)} {i : Nat} {v : Value} (hs : m_stoL L i v = some L') : i + 1 < L.length := by
  unfold m_stoL at hs
  cases hc : (Nat.blt (i + 1) L.length && !(m_c2 L i)) with
  | false => rw [hc] at hs; cases hs
  | true =>
    simp only [Bool.and_eq_true] at hc
    simpa [Nat.blt_eq] using hc.1
/-- what a field takes -/
def m_fit : FieldType → Value → Bool
  | .int, .int _ => true
  | .long, .long _ => true
  | .boolean, .int x => decide (x = 0) || decide (x = 1)
  | .object _, .ref _ => true
  | .object _, .null => true
  | .array _, .ref _ => true
  | .array _, .null => true
  | _, _ => false
theorem m_fit_ok {ty : FieldType} {v : Value} (E : mE) (h : m_fit ty v = true) : narrow ty (m_v E v) = m_v E v ∧ fits ty (m_v E v) = true := by
  unfold m_fit at h
  split at h
  · exact ⟨rfl, rfl⟩
  · exact ⟨rfl, rfl⟩
  · rename_i x
    simp only [Bool.or_eq_true, decide_eq_true_eq] at h
    rcases h with rfl | rfl
    · exact (show narrow .boolean (.int 0) = .int 0 ∧ fits .boolean (.int 0) = true from ⟨by decide, by decide⟩)
    · exact (show narrow .boolean (.int 1) = .int 1 ∧ fits .boolean (.int 1) = true from ⟨by decide, by decide⟩)
  all_goals first | exact ⟨rfl, rfl⟩ | cases h
theorem m_up {f : Nat → Option Nat} {g : Nat → Nat} {i b : Nat} : (fun j => (va_up f i (some b) j).map g) = va_up (fun j => (f j).map g) i (some (g b)) := by
  funext j
  unfold va_up
  by_cases hj : j = i <;> simp [hj]
def m_fin (c k : Nat) : Bool := ((m_cl.getD c (RX0, TX0, 2)).2.1 k).2.2.2
def m_rf : Option Nat → Value
  | some a => .ref a
  | none => .null

def m_off (df lo hi : Int) (offs : Array Int) (x : Int32) : Int := if x.toInt < lo ∨ hi < x.toInt then df else offs.getD (x.toInt - lo).toNat 0
/-- an instruction: the state behind it, and what must hold for it -/
def m_ins (o : Nat) (ini : Bool) (ins : Instr) (t pc : Nat) (L : List (Option Value)) (st : List Value) (h : mH) : Option (mS × Prop) := match ins with
  | .iconst n => match n with
    | .ofNat _ => some ((pc + 1, L, .int (nI t) :: st, h), True)
    | .negSucc _ => some ((pc + 1, L, .int (-nI t) :: st, h), True)
  | .bipush n => match n with
    | .ofNat _ => some ((pc + 2, L, .int (nI t) :: st, h), True)
    | .negSucc _ => some ((pc + 2, L, .int (-nI t) :: st, h), True)
  | .sipush n => match n with
    | .ofNat _ => some ((pc + 3, L, .int (nI t) :: st, h), True)
    | .negSucc _ => some ((pc + 3, L, .int (-nI t) :: st, h), True)
  | .lconst n => some ((pc + 1, L, .long (Int64.ofNat (n : Nat)) :: st, h), True)
  | .iload i => match m_ld L i with
    | some (.int x) => some ((pc + 2, L, .int x :: st, h), True)
    | _ => none
  | .iload_n k => match m_ld L (k : Nat) with
    | some (.int x) => some ((pc + 1, L, .int x :: st, h), True)
    | _ => none
  | .lload i => match m_ld L i with
    | some (.long x) => some ((pc + 2, L, .long x :: st, h), True)
    | _ => none
  | .lload_n k => match m_ld L (k : Nat) with
    | some (.long x) => some ((pc + 1, L, .long x :: st, h), True)
    | _ => none
  | .aload i => match m_ld L i with
    | some (.ref x) => some ((pc + 2, L, .ref x :: st, h), True)
    | _ => none
  | .aload_n k => match m_ld L (k : Nat) with
    | some (.ref x) => some ((pc + 1, L, .ref x :: st, h), True)
    | _ => none
  | .istore i => match st with
    | .int x :: r => match m_sto L i (.int x) with
      | some L2 => some ((pc + 2, L2, r, h), True)
      | none => none
    | _ => none
  | .istore_n k => match st with
    | .int x :: r => match m_sto L (k : Nat) (.int x) with
      | some L2 => some ((pc + 1, L2, r, h), True)
      | none => none
    | _ => none
  | .astore i => match st with
    | .ref x :: r => match m_sto L i (.ref x) with
      | some L2 => some ((pc + 2, L2, r, h), True)
      | none => none
    | _ => none
  | .astore_n k => match st with
    | .ref x :: r => match m_sto L (k : Nat) (.ref x) with
      | some L2 => some ((pc + 1, L2, r, h), True)
      | none => none
    | _ => none
  | .lstore i => match st with
    | .long x :: r => match m_stoL L i (.long x) with
      | some L2 => some ((pc + 2, L2, r, h), True)
      | none => none
    | _ => none
  | .lstore_n k => match st with
    | .long x :: r => match m_stoL L (k : Nat) (.long x) with
      | some L2 => some ((pc + 1, L2, r, h), True)
      | none => none
    | _ => none
  | .iadd => match st with
    | .int y :: .int x :: r => some ((pc + 1, L, .int (x + y) :: r, h), True)
    | _ => none
  | .isub => match st with
    | .int y :: .int x :: r => some ((pc + 1, L, .int (x - y) :: r, h), True)
    | _ => none
  | .imul => match st with
    | .int y :: .int x :: r => some ((pc + 1, L, .int (x * y) :: r, h), True)
    | _ => none
  | .iand => match st with
    | .int y :: .int x :: r => some ((pc + 1, L, .int (x &&& y) :: r, h), True)
    | _ => none
  | .ior => match st with
    | .int y :: .int x :: r => some ((pc + 1, L, .int (x ||| y) :: r, h), True)
    | _ => none
  | .ixor => match st with
    | .int y :: .int x :: r => some ((pc + 1, L, .int (x ^^^ y) :: r, h), True)
    | _ => none
  | .ishl => match st with
    | .int y :: .int x :: r => some ((pc + 1, L, .int (x <<< (y &&& 31)) :: r, h), True)
    | _ => none
  | .ishr => match st with
    | .int y :: .int x :: r => some ((pc + 1, L, .int (x >>> (y &&& 31)) :: r, h), True)
    | _ => none
  | .iushr => match st with
    | .int y :: .int x :: r => some ((pc + 1, L, .int (x.toUInt32 >>> (y.toUInt32 &&& Int32.toUInt32 31)).toInt32 :: r, h), True)
    | _ => none
  | .ineg => match st with
    | .int x :: r => some ((pc + 1, L, .int (-x) :: r, h), True)
    | _ => none
  | .ladd => match st with
    | .long y :: .long x :: r => some ((pc + 1, L, .long (x + y) :: r, h), True)
    | _ => none
  | .lsub => match st with
    | .long y :: .long x :: r => some ((pc + 1, L, .long (x - y) :: r, h), True)
    | _ => none
  | .land => match st with
    | .long y :: .long x :: r => some ((pc + 1, L, .long (x &&& y) :: r, h), True)
    | _ => none
  | .lor => match st with
    | .long y :: .long x :: r => some ((pc + 1, L, .long (x ||| y) :: r, h), True)
    | _ => none
  | .lxor => match st with
    | .long y :: .long x :: r => some ((pc + 1, L, .long (x ^^^ y) :: r, h), True)
    | _ => none
  | .lneg => match st with
    | .long x :: r => some ((pc + 1, L, .long (-x) :: r, h), True)
    | _ => none
  | .lshl => match st with
    | .int y :: .long x :: r => some ((pc + 1, L, .long (x <<< (y.toInt64 &&& 63)) :: r, h), True)
    | _ => none
  | .lushr => match st with
    | .int y :: .long x :: r => some ((pc + 1, L, .long (x.toUInt64 >>> (y.toInt64.toUInt64 &&& Int64.toUInt64 63)).toInt64 :: r, h), True)
    | _ => none
  | .i2l => match st with
    | .int x :: r => some ((pc + 1, L, .long x.toInt64 :: r, h), True)
    | _ => none
  | .l2i => match st with
    | .long x :: r => some ((pc + 1, L, .int x.toInt32 :: r, h), True)
    | _ => none
  | .i2b => match st with
    | .int x :: r => some ((pc + 1, L, .int x.toInt8.toInt32 :: r, h), True)
    | _ => none
  | .lcmp => match st with
    | .long y :: .long x :: r => some ((pc + 1, L, .int (lg_cmp x y) :: r, h), True)
    | _ => none
  | .idiv => match st with
    | .int y :: .int x :: r => some ((pc + 1, L, .int (x / y) :: r, h), ¬ y = 0)
    | _ => none
  | .irem => match st with
    | .int y :: .int x :: r => some ((pc + 1, L, .int (x - x / y * y) :: r, h), ¬ y = 0)
    | _ => none
  | .dup => match st with
    | v :: r => bif (v.category == 1) then some ((pc + 1, L, v :: v :: r, h), True) else none
    | _ => none
  | .pop => match st with
    | v :: r => bif (v.category == 1) then some ((pc + 1, L, r, h), True) else none
    | _ => none
  | .dup2 => match st with
    | .int x :: .ref y :: r => some ((pc + 1, L, .int x :: .ref y :: .int x :: .ref y :: r, h), True)
    | _ => none
  | .iinc i n => match m_ld L i with
    | some (.int x) => match n with
      | .ofNat _ => match m_sto L i (.int (x + nI t)) with
        | some L2 => some ((pc + 3, L2, st, h), True)
        | none => none
      | .negSucc _ => match m_sto L i (.int (x + -nI t)) with
        | some L2 => some ((pc + 3, L2, st, h), True)
        | none => none
    | _ => none
  | .goto _ => some ((t, L, st, h), True)
  | .if_icmp q _ => match st with
    | .int y :: .int x :: r => match q with
      | .eq => some ((if x = y then (t, L, r, h) else (pc + 3, L, r, h)), True)
      | .ne => some ((if ¬ x = y then (t, L, r, h) else (pc + 3, L, r, h)), True)
      | .lt => some ((if x < y then (t, L, r, h) else (pc + 3, L, r, h)), True)
      | .ge => some ((if y ≤ x then (t, L, r, h) else (pc + 3, L, r, h)), True)
      | .gt => some ((if y < x then (t, L, r, h) else (pc + 3, L, r, h)), True)
      | .le => some ((if x ≤ y then (t, L, r, h) else (pc + 3, L, r, h)), True)
    | _ => none
  | .ifCond q _ => match st with
    | .int x :: r => match q with
      | .eq => some ((if x = 0 then (t, L, r, h) else (pc + 3, L, r, h)), True)
      | .ne => some ((if ¬ x = 0 then (t, L, r, h) else (pc + 3, L, r, h)), True)
      | .lt => some ((if x < 0 then (t, L, r, h) else (pc + 3, L, r, h)), True)
      | .ge => some ((if 0 ≤ x then (t, L, r, h) else (pc + 3, L, r, h)), True)
      | .gt => some ((if 0 < x then (t, L, r, h) else (pc + 3, L, r, h)), True)
      | .le => some ((if x ≤ 0 then (t, L, r, h) else (pc + 3, L, r, h)), True)
    | _ => none
  | .tableswitch df lo hi offs => match st with
    | .int x :: r => some ((((pc : Int) + m_off df lo hi offs x).toNat, L, r, h), 0 ≤ (pc : Int) + m_off df lo hi offs x ∧ (¬ (x.toInt < lo ∨ hi < x.toInt) → (x.toInt - lo).toNat < offs.size))
    | _ => none
  | .lookupswitch df ps => match st with
    | .int x :: r => some ((((pc : Int) + Op.lookupswitch.offset ps.toList df x.toInt).toNat, L, r, h), 0 ≤ (pc : Int) + Op.lookupswitch.offset ps.toList df x.toInt ∧ (ps.toList.zip (ps.toList.drop 1)).all (fun (a, next) => a.1 < next.1) = true)
    | _ => none
  | .ldc i => match m_CT.lookup (o, i) with
    | some (.int v) => some ((pc + 2, L, .int v :: st, h), True)
    | _ => none
  | .ldc_w i => match m_CT.lookup (o, i) with
    | some (.int v) => some ((pc + 3, L, .int v :: st, h), True)
    | _ => none
  | .ldc2_w i => match m_CT.lookup (o, i) with
    | some (.long v) => some ((pc + 3, L, .long v :: st, h), True)
    | _ => none
  | .getfield i => match st with
    | .ref a :: r => match m_FT.lookup (o, i) with
      | some (c, k, _) => match h[a]? with
        | some (.inr (c2, fs)) => bif c == c2 then (match fs[k]? with
          | some v => some ((pc + 3, L, v :: r, h), True)
          | none => none) else none
        | _ => none
      | none => none
    | _ => none
  | .putfield i => match st with
    | v :: .ref a :: r => match m_FT.lookup (o, i) with
      | some (c, k, n) => match h[a]? with
        | some (.inr (c2, fs)) => bif (c == c2) && Nat.blt k fs.length && m_fit (m_tyf c k) v && (!(m_fin c k) || (ini && (n == 0) && (m_owns.getD o "" == ((m_cl.getD c (RX0, TX0, 2)).2.1 k).1))) then some ((pc + 3, L, r, h.set a (.inr (c2, fs.set k v))), True) else none
        | _ => none
      | none => none
    | _ => none
  | .iaload => match st with
    | .int i :: .ref a :: r => match h[a]? with
      | some (.inl (0, n, .inl f)) => some ((pc + 1, L, .int (f i.toNatClampNeg) :: r, h), vp_in i n)
      | _ => none
    | _ => none
  | .laload => match st with
    | .int i :: .ref a :: r => match h[a]? with
      | some (.inl (1, n, .inr (.inl f))) => some ((pc + 1, L, .long (f i.toNatClampNeg) :: r, h), vp_in i n)
      | _ => none
    | _ => none
  | .baload => match st with
    | .int i :: .ref a :: r => match h[a]? with
      | some (.inl (2, n, .inl f)) => some ((pc + 1, L, .int (f i.toNatClampNeg) :: r, h), vp_in i n)
      | some (.inl (3, n, .inl f)) => some ((pc + 1, L, .int (f i.toNatClampNeg) :: r, h), vp_in i n)
      | _ => none
    | _ => none
  | .iastore => match st with
    | .int x :: .int i :: .ref a :: r => match h[a]? with
      | some (.inl (0, n, .inl f)) => some ((pc + 1, L, r, h.set a (.inl (0, n, .inl (upd f i.toNatClampNeg x)))), vp_in i n)
      | _ => none
    | _ => none
  | .lastore => match st with
    | .long x :: .int i :: .ref a :: r => match h[a]? with
      | some (.inl (1, n, .inr (.inl f))) => some ((pc + 1, L, r, h.set a (.inl (1, n, .inr (.inl (vp_updL f i.toNatClampNeg x))))), vp_in i n)
      | _ => none
    | _ => none
  | .bastore => match st with
    | .int x :: .int i :: .ref a :: r => match h[a]? with
      | some (.inl (2, n, .inl f)) => some ((pc + 1, L, r, h.set a (.inl (2, n, .inl (upd f i.toNatClampNeg (vp_nar .byte x))))), vp_in i n)
      | some (.inl (3, n, .inl f)) => some ((pc + 1, L, r, h.set a (.inl (3, n, .inl (upd f i.toNatClampNeg (vp_nar .boolean x))))), vp_in i n)
      | _ => none
    | _ => none
  | .aaload => match st with
    | .int i :: .ref a :: r => match h[a]? with
      | some (.inl (t, n, .inr (.inr (.inr (.inr f))))) => bif Nat.ble 4 t && Nat.ble t 6 then some ((pc + 1, L, m_rf (f i.toNatClampNeg) :: r, h), vp_in i n) else none
      | _ => none
    | _ => none
  | .aastore => match st with
    | .ref b :: .int i :: .ref a :: r => match h[a]?, h[b]? with
      | some (.inl (t, n, .inr (.inr (.inr (.inr f))))), some (.inr (c, vs)) => bif (t == 4 && c == 2) || (t == 5 && c == 6) then some ((pc + 1, L, r, h.set a (.inl (t, n, .inr (.inr (.inr (.inr (va_up f i.toNatClampNeg (some b)))))))), vp_in i n) else none
      | _, _ => none
    | _ => none
  | .arraylength => match st with
    | .ref a :: r => match h[a]? with
      | some (.inl (t, n, .inl _)) => bif (t == 0) || (t == 2) then some ((pc + 1, L, .int (Int32.ofNat n) :: r, h), True) else none
      | _ => none
    | _ => none
  | _ => none
def m_step (M : mM) : mS → Option (mS × Prop)
  | (pc, L, st, h) => match (m_tb M).lookup pc with
    | none => none
    | some (ins, t) => m_ins M.2.2.2.2.2.1 (decide (M.1.name = "<init>")) ins t pc L st h
theorem m_eqS {l : Launch} {EX : State → Prop} {E : mE} {M : mM} {d mc ms : Nat} {PR : Option Value → mH → Bool → Prop} {PX : String → mH → Prop} {tg : Bool} {kc ks : Nat} {S S' : mS} (h : m_J l EX E M d mc ms PR PX tg kc ks S) (e : S = S') : m_J l EX E M d mc ms PR PX tg kc ks S' := e ▸ h
/-- behind a write -/
theorem m_back {p : Program} {l : Launch} {e : Env} {s : State} {m : MethodId} {args : Array Value} {below : List Frame} {meth : Method} {c : Code} {R : Room} {E : mE} {tg : Bool} {kc ks : Nat} {h h1 : mH} {H H1 : Heap} {locs1 : List Loc} {Q : State → Prop} {g : JFrame}
    (hz1 : s.heap.size ≤ H.size) (hz2 : tg = true → s.heap.size + kc ≤ E.1 + h.length) (hR : m_R E tg h H) (hP1 : va_P E.2.2.1 m_cl (m_W E h1) H1) (hl : h1.length = h.length) (hS1 : va_S (fun q => E.1 ≤ q) E.2.2.2.2 H1 locs1)
    (k : ∀ H9, m_R E tg h1 H9 → s.heap.size ≤ H9.size → (tg = true → s.heap.size + kc ≤ E.1 + h1.length) → W p l e R s m args below meth c H9 locs1 kc ks Q g) : W p l e R s m args below meth c H1 locs1 kc ks Q g := by
  refine m_size (fun z1 z2 => ?_)
  refine k H1 ⟨hP1, ?_, fun ht => ?_, fun q hq => ?_, by rw [hl]; exact hR.2.2.2.2.1, hR.2.2.2.2.2⟩ z2 (fun ht => by rw [hl]; exact hz2 ht)
  · by_cases h0 : h1.length = 0
    · rw [h0]; have := hS1.1; rw [hR.2.2.2.2.2] at this; omega
    · have hlt : h1.length - 1 < h1.length := by omega
      have hg : (m_W E h1)[h1.length - 1]? = some (m_ad E (h1.length - 1), m_c E h1[h1.length - 1]) := m_W_get (List.getElem?_eq_getElem hlt)
      have := (hP1 _ _ hg).lt
      have hb : h1.length ≤ 1000000 := by rw [hl]; exact hR.2.2.2.2.1
      simp only [m_ad] at this
      rw [if_pos (by omega)] at this
      omega
  · have := hz2 ht; rw [hl]; omega
  · exact hS1.2.1 q (by rw [hR.2.2.2.2.2]; exact hq) (by omega)
set_option maxHeartbeats 4000000 in
theorem m_J_step {l : Launch} {EX : State → Prop} {E : mE} {M : mM} {d mc ms : Nat} {PR : Option Value → mH → Bool → Prop} {PX : String → mH → Prop} {tg : Bool} {kc ks : Nat} {S S' : mS} {CC : Prop} (hM : m_okM M = true) (hs : m_step M S = some (S', CC)) (hC : CC) (hJ : m_J l EX E M d mc ms PR PX tg kc ks S') : m_J l EX E M d mc ms PR PX tg kc ks S := by
  obtain ⟨pc, L, st, h⟩ := S
  unfold m_step at hs
  dsimp only at hs
  split at hs
  · cases hs
  rename_i ins t hf
  obtain ⟨n, hd1, hn, ht0, hc0⟩ := m_dec hM hf
  have hd0 : m_sw ins = false → decode M.2.1 pc = .ok (ins, m_len ins) := fun hs9 => by rw [← hn hs9]; exact hd1
  cases ins with
  | iconst n =>
    have hd := hd0 rfl
    have hv := hc0 _ _ rfl
    cases n with
    | ofNat n9 =>
      cases hs
      intro p e s m args below meth c H locs ls hX hR hz1 hz2 hlo hL
      have hv2 : decide (0 ≤ (Int.ofNat n9)) = true := by simp
      rw [hv2] at hv
      exact lv_iconst hX.1 hX.2.1 hd hv (hJ p e s m args below meth c H locs ls hX hR hz1 hz2 hlo hL)
    | negSucc n9 =>
      cases hs
      intro p e s m args below meth c H locs ls hX hR hz1 hz2 hlo hL
      have hv2 : decide (0 ≤ (Int.negSucc n9)) = false := by simp
      rw [hv2] at hv
      exact lv_iconst hX.1 hX.2.1 hd hv (hJ p e s m args below meth c H locs ls hX hR hz1 hz2 hlo hL)
  | bipush n =>
    have hd := hd0 rfl
    have hv := hc0 _ _ rfl
    cases n with
    | ofNat n9 =>
      cases hs
      intro p e s m args below meth c H locs ls hX hR hz1 hz2 hlo hL
      have hv2 : decide (0 ≤ (Int.ofNat n9)) = true := by simp
      rw [hv2] at hv
      exact lv_bipush hX.1 hX.2.1 hd hv (hJ p e s m args below meth c H locs ls hX hR hz1 hz2 hlo hL)
    | negSucc n9 =>
      cases hs
      intro p e s m args below meth c H locs ls hX hR hz1 hz2 hlo hL
      have hv2 : decide (0 ≤ (Int.negSucc n9)) = false := by simp
      rw [hv2] at hv
      exact lv_bipush hX.1 hX.2.1 hd hv (hJ p e s m args below meth c H locs ls hX hR hz1 hz2 hlo hL)
  | sipush n =>
    have hd := hd0 rfl
    have hv := hc0 _ _ rfl
    cases n with
    | ofNat n9 =>
      cases hs
      intro p e s m args below meth c H locs ls hX hR hz1 hz2 hlo hL
      have hv2 : decide (0 ≤ (Int.ofNat n9)) = true := by simp
      rw [hv2] at hv
      exact lv_sipush hX.1 hX.2.1 hd hv (hJ p e s m args below meth c H locs ls hX hR hz1 hz2 hlo hL)
    | negSucc n9 =>
      cases hs
      intro p e s m args below meth c H locs ls hX hR hz1 hz2 hlo hL
      have hv2 : decide (0 ≤ (Int.negSucc n9)) = false := by simp
      rw [hv2] at hv
      exact lv_sipush hX.1 hX.2.1 hd hv (hJ p e s m args below meth c H locs ls hX hR hz1 hz2 hlo hL)
  | lconst n =>
    cases hs
    have hd := hd0 rfl
    intro p e s m args below meth c H locs ls hX hR hz1 hz2 hlo hL
    exact lv_lconst hX.1 hX.2.1 hd rfl (hJ p e s m args below meth c H locs ls hX hR hz1 hz2 hlo hL)
  | iload i =>
    dsimp only [m_ins] at hs
    split at hs
    · rename_i hq
      cases hs
      have hd := hd0 rfl
      intro p e s m args below meth c H locs ls hX hR hz1 hz2 hlo hL
      exact lv_iload hX.1 hX.2.1 hd (m_ld_at hL hq) (hJ p e s m args below meth c H locs ls hX hR hz1 hz2 hlo hL)
    · cases hs
  | iload_n k =>
    dsimp only [m_ins] at hs
    split at hs
    · rename_i hq
      cases hs
      have hd := hd0 rfl
      intro p e s m args below meth c H locs ls hX hR hz1 hz2 hlo hL
      exact lv_iload_n hX.1 hX.2.1 hd rfl (m_ld_at hL hq) (hJ p e s m args below meth c H locs ls hX hR hz1 hz2 hlo hL)
    · cases hs
  | lload i =>
    dsimp only [m_ins] at hs
    split at hs
    · rename_i hq
      cases hs
      have hd := hd0 rfl
      intro p e s m args below meth c H locs ls hX hR hz1 hz2 hlo hL
      exact lv_lload hX.1 hX.2.1 hd (m_ld_at hL hq) (hJ p e s m args below meth c H locs ls hX hR hz1 hz2 hlo hL)
    · cases hs
  | lload_n k =>
    dsimp only [m_ins] at hs
    split at hs
    · rename_i hq
      cases hs
      have hd := hd0 rfl
      intro p e s m args below meth c H locs ls hX hR hz1 hz2 hlo hL
      exact lv_lload_n hX.1 hX.2.1 hd rfl (m_ld_at hL hq) (hJ p e s m args below meth c H locs ls hX hR hz1 hz2 hlo hL)
    · cases hs
  | aload i =>
    dsimp only [m_ins] at hs
    split at hs
    · rename_i hq
      cases hs
      have hd := hd0 rfl
      intro p e s m args below meth c H locs ls hX hR hz1 hz2 hlo hL
      exact lv_aload hX.1 hX.2.1 hd (m_ld_at hL hq) (hJ p e s m args below meth c H locs ls hX hR hz1 hz2 hlo hL)
    · cases hs
  | aload_n k =>
    dsimp only [m_ins] at hs
    split at hs
    · rename_i hq
      cases hs
      have hd := hd0 rfl
      intro p e s m args below meth c H locs ls hX hR hz1 hz2 hlo hL
      exact lv_aload_n hX.1 hX.2.1 hd rfl (m_ld_at hL hq) (hJ p e s m args below meth c H locs ls hX hR hz1 hz2 hlo hL)
    · cases hs
  | istore i =>
    dsimp only [m_ins] at hs
    split at hs
    · split at hs
      · rename_i hq
        cases hs
        have hd := hd0 rfl
        intro p e s m args below meth c H locs ls hX hR hz1 hz2 hlo hL
        exact lv_istore hX.1 hX.2.1 hd (m_al_has hL) (by rw [← hL.2.2.1]; exact m_sto_lt hq) rfl (fun ls2 h2 => hJ p e s m args below meth c H locs ls2 hX hR hz1 hz2 hlo (m_sto_L hL.2.2.1 hq h2))
      · cases hs
    · cases hs
  | istore_n k =>
    dsimp only [m_ins] at hs
    split at hs
    · split at hs
      · rename_i hq
        cases hs
        have hd := hd0 rfl
        intro p e s m args below meth c H locs ls hX hR hz1 hz2 hlo hL
        exact lv_istore_n hX.1 hX.2.1 hd rfl (m_al_has hL) (by rw [← hL.2.2.1]; exact m_sto_lt hq) rfl (fun ls2 h2 => hJ p e s m args below meth c H locs ls2 hX hR hz1 hz2 hlo (m_sto_L hL.2.2.1 hq h2))
      · cases hs
    · cases hs
  | astore i =>
    dsimp only [m_ins] at hs
    split at hs
    · split at hs
      · rename_i hq
        cases hs
        have hd := hd0 rfl
        intro p e s m args below meth c H locs ls hX hR hz1 hz2 hlo hL
        exact lv_astore hX.1 hX.2.1 hd (m_al_has hL) (by rw [← hL.2.2.1]; exact m_sto_lt hq) rfl (fun ls2 h2 => hJ p e s m args below meth c H locs ls2 hX hR hz1 hz2 hlo (m_sto_L hL.2.2.1 hq h2))
      · cases hs
    · cases hs
  | astore_n k =>
    dsimp only [m_ins] at hs
    split at hs
    · split at hs
      · rename_i hq
        cases hs
        have hd := hd0 rfl
        intro p e s m args below meth c H locs ls hX hR hz1 hz2 hlo hL
        exact lv_astore_n hX.1 hX.2.1 hd rfl (m_al_has hL) (by rw [← hL.2.2.1]; exact m_sto_lt hq) rfl (fun ls2 h2 => hJ p e s m args below meth c H locs ls2 hX hR hz1 hz2 hlo (m_sto_L hL.2.2.1 hq h2))
      · cases hs
    · cases hs
  | lstore i =>
    dsimp only [m_ins] at hs
    split at hs
    · split at hs
      · rename_i hq
        cases hs
        have hd := hd0 rfl
        intro p e s m args below meth c H locs ls hX hR hz1 hz2 hlo hL
        exact lv_lstore hX.1 hX.2.1 hd (m_al_has hL) (by rw [← hL.2.2.1]; exact m_stoL_lt hq) rfl (fun ls2 h2 => hJ p e s m args below meth c H locs ls2 hX hR hz1 hz2 hlo (m_stoL_L hL.2.2.1 hq h2))
      · cases hs
    · cases hs
  | lstore_n k =>
    dsimp only [m_ins] at hs
    split at hs
    · split at hs
      · rename_i hq
        cases hs
        have hd := hd0 rfl
        intro p e s m args below meth c H locs ls hX hR hz1 hz2 hlo hL
        exact lv_lstore_n hX.1 hX.2.1 hd rfl (m_al_has hL) (by rw [← hL.2.2.1]; exact m_stoL_lt hq) rfl (fun ls2 h2 => hJ p e s m args below meth c H locs ls2 hX hR hz1 hz2 hlo (m_stoL_L hL.2.2.1 hq h2))
      · cases hs
    · cases hs
  | iadd  =>
    dsimp only [m_ins] at hs
    split at hs
    · cases hs
      have hd := hd0 rfl
      intro p e s m args below meth c H locs ls hX hR hz1 hz2 hlo hL
      exact lv_iadd hX.1 hX.2.1 hd (hJ p e s m args below meth c H locs ls hX hR hz1 hz2 hlo hL)
    · cases hs
  | isub  =>
    dsimp only [m_ins] at hs
    split at hs
    · cases hs
      have hd := hd0 rfl
      intro p e s m args below meth c H locs ls hX hR hz1 hz2 hlo hL
      exact lv_isub hX.1 hX.2.1 hd (hJ p e s m args below meth c H locs ls hX hR hz1 hz2 hlo hL)
    · cases hs
  | imul  =>
    dsimp only [m_ins] at hs
    split at hs
    · cases hs
      have hd := hd0 rfl
      intro p e s m args below meth c H locs ls hX hR hz1 hz2 hlo hL
      exact lv_imul hX.1 hX.2.1 hd (hJ p e s m args below meth c H locs ls hX hR hz1 hz2 hlo hL)
    · cases hs
  | iand  =>
    dsimp only [m_ins] at hs
    split at hs
    · cases hs
      have hd := hd0 rfl
      intro p e s m args below meth c H locs ls hX hR hz1 hz2 hlo hL
      exact lv_iand hX.1 hX.2.1 hd (hJ p e s m args below meth c H locs ls hX hR hz1 hz2 hlo hL)
    · cases hs
  | ior  =>
    dsimp only [m_ins] at hs
    split at hs
    · cases hs
      have hd := hd0 rfl
      intro p e s m args below meth c H locs ls hX hR hz1 hz2 hlo hL
      exact lv_ior hX.1 hX.2.1 hd (hJ p e s m args below meth c H locs ls hX hR hz1 hz2 hlo hL)
    · cases hs
  | ixor  =>
    dsimp only [m_ins] at hs
    split at hs
    · cases hs
      have hd := hd0 rfl
      intro p e s m args below meth c H locs ls hX hR hz1 hz2 hlo hL
      exact lv_ixor hX.1 hX.2.1 hd (hJ p e s m args below meth c H locs ls hX hR hz1 hz2 hlo hL)
    · cases hs
  | ishl  =>
    dsimp only [m_ins] at hs
    split at hs
    · cases hs
      have hd := hd0 rfl
      intro p e s m args below meth c H locs ls hX hR hz1 hz2 hlo hL
      exact lv_ishl hX.1 hX.2.1 hd (hJ p e s m args below meth c H locs ls hX hR hz1 hz2 hlo hL)
    · cases hs
  | ishr  =>
    dsimp only [m_ins] at hs
    split at hs
    · cases hs
      have hd := hd0 rfl
      intro p e s m args below meth c H locs ls hX hR hz1 hz2 hlo hL
      exact lv_ishr hX.1 hX.2.1 hd (hJ p e s m args below meth c H locs ls hX hR hz1 hz2 hlo hL)
    · cases hs
  | iushr  =>
    dsimp only [m_ins] at hs
    split at hs
    · cases hs
      have hd := hd0 rfl
      intro p e s m args below meth c H locs ls hX hR hz1 hz2 hlo hL
      exact lv_iushr hX.1 hX.2.1 hd rfl (hJ p e s m args below meth c H locs ls hX hR hz1 hz2 hlo hL)
    · cases hs
  | ineg  =>
    dsimp only [m_ins] at hs
    split at hs
    · cases hs
      have hd := hd0 rfl
      intro p e s m args below meth c H locs ls hX hR hz1 hz2 hlo hL
      exact lv_ineg hX.1 hX.2.1 hd (hJ p e s m args below meth c H locs ls hX hR hz1 hz2 hlo hL)
    · cases hs
  | ladd  =>
    dsimp only [m_ins] at hs
    split at hs
    · cases hs
      have hd := hd0 rfl
      intro p e s m args below meth c H locs ls hX hR hz1 hz2 hlo hL
      exact lv_ladd hX.1 hX.2.1 hd (hJ p e s m args below meth c H locs ls hX hR hz1 hz2 hlo hL)
    · cases hs
  | lsub  =>
    dsimp only [m_ins] at hs
    split at hs
    · cases hs
      have hd := hd0 rfl
      intro p e s m args below meth c H locs ls hX hR hz1 hz2 hlo hL
      exact lv_lsub hX.1 hX.2.1 hd (hJ p e s m args below meth c H locs ls hX hR hz1 hz2 hlo hL)
    · cases hs
  | land  =>
    dsimp only [m_ins] at hs
    split at hs
    · cases hs
      have hd := hd0 rfl
      intro p e s m args below meth c H locs ls hX hR hz1 hz2 hlo hL
      exact lv_land hX.1 hX.2.1 hd (hJ p e s m args below meth c H locs ls hX hR hz1 hz2 hlo hL)
    · cases hs
  | lor  =>
    dsimp only [m_ins] at hs
    split at hs
    · cases hs
      have hd := hd0 rfl
      intro p e s m args below meth c H locs ls hX hR hz1 hz2 hlo hL
      exact lv_lor hX.1 hX.2.1 hd (hJ p e s m args below meth c H locs ls hX hR hz1 hz2 hlo hL)
    · cases hs
  | lxor  =>
    dsimp only [m_ins] at hs
    split at hs
    · cases hs
      have hd := hd0 rfl
      intro p e s m args below meth c H locs ls hX hR hz1 hz2 hlo hL
      exact lv_lxor hX.1 hX.2.1 hd (hJ p e s m args below meth c H locs ls hX hR hz1 hz2 hlo hL)
    · cases hs
  | lneg  =>
    dsimp only [m_ins] at hs
    split at hs
    · cases hs
      have hd := hd0 rfl
      intro p e s m args below meth c H locs ls hX hR hz1 hz2 hlo hL
      exact lv_lneg hX.1 hX.2.1 hd (hJ p e s m args below meth c H locs ls hX hR hz1 hz2 hlo hL)
    · cases hs
  | lshl  =>
    dsimp only [m_ins] at hs
    split at hs
    · cases hs
      have hd := hd0 rfl
      intro p e s m args below meth c H locs ls hX hR hz1 hz2 hlo hL
      exact lv_lshl hX.1 hX.2.1 hd rfl (hJ p e s m args below meth c H locs ls hX hR hz1 hz2 hlo hL)
    · cases hs
  | lushr  =>
    dsimp only [m_ins] at hs
    split at hs
    · cases hs
      have hd := hd0 rfl
      intro p e s m args below meth c H locs ls hX hR hz1 hz2 hlo hL
      exact lv_lushr hX.1 hX.2.1 hd rfl (hJ p e s m args below meth c H locs ls hX hR hz1 hz2 hlo hL)
    · cases hs
  | i2l  =>
    dsimp only [m_ins] at hs
    split at hs
    · cases hs
      have hd := hd0 rfl
      intro p e s m args below meth c H locs ls hX hR hz1 hz2 hlo hL
      exact lv_i2l hX.1 hX.2.1 hd rfl (hJ p e s m args below meth c H locs ls hX hR hz1 hz2 hlo hL)
    · cases hs
  | l2i  =>
    dsimp only [m_ins] at hs
    split at hs
    · cases hs
      have hd := hd0 rfl
      intro p e s m args below meth c H locs ls hX hR hz1 hz2 hlo hL
      exact lv_l2i hX.1 hX.2.1 hd rfl (hJ p e s m args below meth c H locs ls hX hR hz1 hz2 hlo hL)
    · cases hs
  | i2b  =>
    dsimp only [m_ins] at hs
    split at hs
    · cases hs
      have hd := hd0 rfl
      intro p e s m args below meth c H locs ls hX hR hz1 hz2 hlo hL
      exact lv_i2b hX.1 hX.2.1 hd rfl (hJ p e s m args below meth c H locs ls hX hR hz1 hz2 hlo hL)
    · cases hs
  | lcmp  =>
    dsimp only [m_ins] at hs
    split at hs
    · cases hs
      have hd := hd0 rfl
      intro p e s m args below meth c H locs ls hX hR hz1 hz2 hlo hL
      exact W.lcmp hX.1 hX.2.1 hd (hJ p e s m args below meth c H locs ls hX hR hz1 hz2 hlo hL)
    · cases hs
  | idiv =>
    dsimp only [m_ins] at hs
    split at hs
    · cases hs
      have hd := hd0 rfl
      intro p e s m args below meth c H locs ls hX hR hz1 hz2 hlo hL
      exact lv_idiv hX.1 hX.2.1 hd hC (hJ p e s m args below meth c H locs ls hX hR hz1 hz2 hlo hL)
    · cases hs
  | irem =>
    dsimp only [m_ins] at hs
    split at hs
    · cases hs
      have hd := hd0 rfl
      intro p e s m args below meth c H locs ls hX hR hz1 hz2 hlo hL
      exact lv_irem hX.1 hX.2.1 hd hC (hJ p e s m args below meth c H locs ls hX hR hz1 hz2 hlo hL)
    · cases hs
  | dup =>
    dsimp only [m_ins] at hs
    split at hs
    · rename_i v r
      cases hv : (v.category == 1) with
      | false => rw [hv] at hs; cases hs
      | true =>
        rw [hv] at hs
        cases hs
        have hv1 : (m_v E v).category = 1 := by rw [m_cat]; simpa using hv
        have hd := hd0 rfl
        intro p e s m args below meth c H locs ls hX hR hz1 hz2 hlo hL
        exact lv_dup hX.1 hX.2.1 hd hv1 (hJ p e s m args below meth c H locs ls hX hR hz1 hz2 hlo hL)
    · cases hs
  | pop =>
    dsimp only [m_ins] at hs
    split at hs
    · rename_i v r
      cases hv : (v.category == 1) with
      | false => rw [hv] at hs; cases hs
      | true =>
        rw [hv] at hs
        cases hs
        have hv1 : (m_v E v).category = 1 := by rw [m_cat]; simpa using hv
        have hd := hd0 rfl
        intro p e s m args below meth c H locs ls hX hR hz1 hz2 hlo hL
        exact lv_pop hX.1 hX.2.1 hd hv1 (hJ p e s m args below meth c H locs ls hX hR hz1 hz2 hlo hL)
    · cases hs
  | dup2 =>
    dsimp only [m_ins] at hs
    split at hs
    · cases hs
      have hd := hd0 rfl
      intro p e s m args below meth c H locs ls hX hR hz1 hz2 hlo hL
      exact lv_dup2_11 hX.1 hX.2.1 hd rfl rfl (hJ p e s m args below meth c H locs ls hX hR hz1 hz2 hlo hL)
    · cases hs
  | iinc i n =>
    have hd := hd0 rfl
    have hv := hc0 _ _ rfl
    dsimp only [m_ins] at hs
    split at hs
    · rename_i x hx
      have key : ∀ w : Int32, Int32.ofInt n = w → ∀ L2, m_sto L i (.int (x + w)) = some L2 → m_J l EX E M d mc ms PR PX tg kc ks (pc + 3, L2, st, h) → m_J l EX E M d mc ms PR PX tg kc ks (pc, L, st, h) := by
        intro w hw L2 hq hJ
        intro p e s m args below meth c H locs ls hX hR hz1 hz2 hlo hL
        obtain ⟨k, hk⟩ := List.getElem?_of_mem (m_al_mem (E := E) (q := (i, Value.int x)).mpr ⟨.int x, hx, rfl⟩)
        exact lv_iinc hX.1 hX.2.1 hd (m_al_has hL) hk (by rw [hw]) (by rw [← hL.2.2.1]; exact m_sto_lt hq) rfl (fun ls2 h2 => hJ p e s m args below meth c H locs ls2 hX hR hz1 hz2 hlo (m_sto_L hL.2.2.1 hq h2))
      cases n with
      | ofNat n9 =>
        dsimp only at hs
        split at hs
        · rename_i hq
          cases hs
          have hv2 : decide (0 ≤ (Int.ofNat n9)) = true := by simp
          rw [hv2] at hv
          exact key _ hv _ hq hJ
        · cases hs
      | negSucc n9 =>
        dsimp only at hs
        split at hs
        · rename_i hq
          cases hs
          have hv2 : decide (0 ≤ (Int.negSucc n9)) = false := by simp
          rw [hv2] at hv
          exact key _ hv _ hq hJ
        · cases hs
    · cases hs
  | goto o =>
    cases hs
    have hd := hd0 rfl
    intro p e s m args below meth c H locs ls hX hR hz1 hz2 hlo hL
    exact lv_goto hX.1 hX.2.1 hd (ht0 _ rfl) (hJ p e s m args below meth c H locs ls hX hR hz1 hz2 hlo hL)
  | if_icmp q o =>
    dsimp only [m_ins] at hs
    split at hs
    · cases q with
      | eq =>
        cases hs
        have hd := hd0 rfl
        intro p e s m args below meth c H locs ls hX hR hz1 hz2 hlo hL
        exact lv_icmp_eq hX.1 hX.2.1 hd (ht0 _ rfl) (fun hc => m_eqS hJ (if_pos hc) p e s m args below meth c H locs ls hX hR hz1 hz2 hlo hL) (fun hc => m_eqS hJ (if_neg hc) p e s m args below meth c H locs ls hX hR hz1 hz2 hlo hL)
      | ne =>
        cases hs
        have hd := hd0 rfl
        intro p e s m args below meth c H locs ls hX hR hz1 hz2 hlo hL
        exact lv_icmp_ne hX.1 hX.2.1 hd (ht0 _ rfl) (fun hc => m_eqS hJ (if_pos hc) p e s m args below meth c H locs ls hX hR hz1 hz2 hlo hL) (fun hc => m_eqS hJ (if_neg (fun hn => hn hc)) p e s m args below meth c H locs ls hX hR hz1 hz2 hlo hL)
      | lt =>
        cases hs
        have hd := hd0 rfl
        intro p e s m args below meth c H locs ls hX hR hz1 hz2 hlo hL
        exact lv_icmp_lt hX.1 hX.2.1 hd (ht0 _ rfl) (fun hc => m_eqS hJ (if_pos hc) p e s m args below meth c H locs ls hX hR hz1 hz2 hlo hL) (fun hc => m_eqS hJ (if_neg hc) p e s m args below meth c H locs ls hX hR hz1 hz2 hlo hL)
      | ge =>
        cases hs
        have hd := hd0 rfl
        intro p e s m args below meth c H locs ls hX hR hz1 hz2 hlo hL
        exact lv_icmp_ge hX.1 hX.2.1 hd (ht0 _ rfl) (fun hc => m_eqS hJ (if_pos hc) p e s m args below meth c H locs ls hX hR hz1 hz2 hlo hL) (fun hc => m_eqS hJ (if_neg hc) p e s m args below meth c H locs ls hX hR hz1 hz2 hlo hL)
      | gt =>
        cases hs
        have hd := hd0 rfl
        intro p e s m args below meth c H locs ls hX hR hz1 hz2 hlo hL
        exact lv_icmp_gt hX.1 hX.2.1 hd (ht0 _ rfl) (fun hc => m_eqS hJ (if_pos hc) p e s m args below meth c H locs ls hX hR hz1 hz2 hlo hL) (fun hc => m_eqS hJ (if_neg hc) p e s m args below meth c H locs ls hX hR hz1 hz2 hlo hL)
      | le =>
        cases hs
        have hd := hd0 rfl
        intro p e s m args below meth c H locs ls hX hR hz1 hz2 hlo hL
        exact lv_icmp_le hX.1 hX.2.1 hd (ht0 _ rfl) (fun hc => m_eqS hJ (if_pos hc) p e s m args below meth c H locs ls hX hR hz1 hz2 hlo hL) (fun hc => m_eqS hJ (if_neg hc) p e s m args below meth c H locs ls hX hR hz1 hz2 hlo hL)
    · cases hs
  | ifCond q o =>
    dsimp only [m_ins] at hs
    split at hs
    · cases q with
      | eq =>
        cases hs
        have hd := hd0 rfl
        intro p e s m args below meth c H locs ls hX hR hz1 hz2 hlo hL
        exact lv_if_eq hX.1 hX.2.1 hd (ht0 _ rfl) (fun hc => m_eqS hJ (if_pos hc) p e s m args below meth c H locs ls hX hR hz1 hz2 hlo hL) (fun hc => m_eqS hJ (if_neg hc) p e s m args below meth c H locs ls hX hR hz1 hz2 hlo hL)
      | ne =>
        cases hs
        have hd := hd0 rfl
        intro p e s m args below meth c H locs ls hX hR hz1 hz2 hlo hL
        exact lv_if_ne hX.1 hX.2.1 hd (ht0 _ rfl) (fun hc => m_eqS hJ (if_pos hc) p e s m args below meth c H locs ls hX hR hz1 hz2 hlo hL) (fun hc => m_eqS hJ (if_neg (fun hn => hn hc)) p e s m args below meth c H locs ls hX hR hz1 hz2 hlo hL)
      | lt =>
        cases hs
        have hd := hd0 rfl
        intro p e s m args below meth c H locs ls hX hR hz1 hz2 hlo hL
        exact lv_if_lt hX.1 hX.2.1 hd (ht0 _ rfl) (fun hc => m_eqS hJ (if_pos hc) p e s m args below meth c H locs ls hX hR hz1 hz2 hlo hL) (fun hc => m_eqS hJ (if_neg hc) p e s m args below meth c H locs ls hX hR hz1 hz2 hlo hL)
      | ge =>
        cases hs
        have hd := hd0 rfl
        intro p e s m args below meth c H locs ls hX hR hz1 hz2 hlo hL
        exact lv_if_ge hX.1 hX.2.1 hd (ht0 _ rfl) (fun hc => m_eqS hJ (if_pos hc) p e s m args below meth c H locs ls hX hR hz1 hz2 hlo hL) (fun hc => m_eqS hJ (if_neg hc) p e s m args below meth c H locs ls hX hR hz1 hz2 hlo hL)
      | gt =>
        cases hs
        have hd := hd0 rfl
        intro p e s m args below meth c H locs ls hX hR hz1 hz2 hlo hL
        exact lv_if_gt hX.1 hX.2.1 hd (ht0 _ rfl) (fun hc => m_eqS hJ (if_pos hc) p e s m args below meth c H locs ls hX hR hz1 hz2 hlo hL) (fun hc => m_eqS hJ (if_neg hc) p e s m args below meth c H locs ls hX hR hz1 hz2 hlo hL)
      | le =>
        cases hs
        have hd := hd0 rfl
        intro p e s m args below meth c H locs ls hX hR hz1 hz2 hlo hL
        exact lv_if_le hX.1 hX.2.1 hd (ht0 _ rfl) (fun hc => m_eqS hJ (if_pos hc) p e s m args below meth c H locs ls hX hR hz1 hz2 hlo hL) (fun hc => m_eqS hJ (if_neg hc) p e s m args below meth c H locs ls hX hR hz1 hz2 hlo hL)
    · cases hs
  | tableswitch df lo hi offs =>
    dsimp only [m_ins] at hs
    split at hs
    · rename_i x r
      cases hs
      intro p e s m args below meth c H locs ls hX hR hz1 hz2 hlo hL
      have hw := hJ p e s m args below meth c H locs ls hX hR hz1 hz2 hlo hL
      have hp : (pc : Int) + m_off df lo hi offs x = ((((pc : Int) + m_off df lo hi offs x).toNat : Nat) : Int) := (Int.toNat_of_nonneg hC.1).symm
      by_cases hc : x.toInt < lo ∨ hi < x.toInt
      · refine lv_tableOut hX.1 hX.2.1 hd1 hc ?_ hw
        rw [← hp]; unfold m_off; rw [if_pos hc]
      · have hi2 := hC.2 hc
        refine lv_tableIn hX.1 hX.2.1 hd1 (fun q => hc (Or.inl q)) (fun q => hc (Or.inr q)) (off := offs.getD (x.toInt - lo).toNat 0) ?_ ?_ hw
        · simp [Array.getD, hi2]
        · rw [← hp]; unfold m_off; rw [if_neg hc]
    · cases hs
  | lookupswitch df ps =>
    dsimp only [m_ins] at hs
    split at hs
    · rename_i x r
      cases hs
      intro p e s m args below meth c H locs ls hX hR hz1 hz2 hlo hL
      exact lv_lookup hX.1 hX.2.1 hd1 hC.2 rfl (Int.toNat_of_nonneg hC.1).symm (hJ p e s m args below meth c H locs ls hX hR hz1 hz2 hlo hL)
    · cases hs
  | ldc i =>
    dsimp only [m_ins] at hs
    split at hs
    · rename_i v hv
      cases hs
      have hd := hd0 rfl
      have hw := m_ct_spec hv
      dsimp only [m_CTw] at hw
      rw [m_own hM] at hw
      intro p e s m args below meth c H locs ls hX hR hz1 hz2 hlo hL
      exact lv_ldc hX.1 hX.2.1 hX.2.2.2.2.1 (hX.2.2.2.2.2.1 _ hw) hd (hJ p e s m args below meth c H locs ls hX hR hz1 hz2 hlo hL)
    · cases hs
  | ldc_w i =>
    dsimp only [m_ins] at hs
    split at hs
    · rename_i v hv
      cases hs
      have hd := hd0 rfl
      have hw := m_ct_spec hv
      dsimp only [m_CTw] at hw
      rw [m_own hM] at hw
      intro p e s m args below meth c H locs ls hX hR hz1 hz2 hlo hL
      exact lv_ldcw hX.1 hX.2.1 hX.2.2.2.2.1 (hX.2.2.2.2.2.1 _ hw) hd (hJ p e s m args below meth c H locs ls hX hR hz1 hz2 hlo hL)
    · cases hs
  | ldc2_w i =>
    dsimp only [m_ins] at hs
    split at hs
    · rename_i v hv
      cases hs
      have hd := hd0 rfl
      have hw := m_ct_spec hv
      dsimp only [m_CTw] at hw
      rw [m_own hM] at hw
      intro p e s m args below meth c H locs ls hX hR hz1 hz2 hlo hL
      exact lv_ldc2 hX.1 hX.2.1 hX.2.2.2.2.1 (hX.2.2.2.2.2.1 _ hw) hd (hJ p e s m args below meth c H locs ls hX hR hz1 hz2 hlo hL)
    · cases hs
  | getfield i =>
    dsimp only [m_ins] at hs
    split at hs
    · rename_i a r
      split at hs
      · rename_i c0 k n hft
        split at hs
        · rename_i c2 fs hh
          cases hc : (c0 == c2) with
          | false => rw [hc] at hs; cases hs
          | true =>
            rw [hc] at hs
            have hc2 : c0 = c2 := by simpa using hc
            subst hc2
            dsimp only [cond] at hs
            split at hs
            · rename_i v hv
              cases hs
              have hd := hd0 rfl
              obtain ⟨q, hq, hkq, hw⟩ := m_ft_spec hft
              obtain ⟨C, TT, N⟩ := q
              intro p e s m args below meth c H locs ls hX hR hz1 hz2 hlo hL
              have hw2 := hX.2.2.2.2.2.1 _ hw
              have hg := m_W_get (E := E) hh
              unfold m_FTw at hw2
              dsimp only at hw2
              rw [m_own hM] at hw2
              have hv2 : (fs.map (m_v E))[k]? = some (m_v E v) := by rw [List.getElem?_map, hv]; rfl
              by_cases hn : n = 0
              · rw [if_pos hn] at hw2
                exact va_get hX.1 hX.2.1 hX.2.2.2.2.2.1 (m_cl_spec hq).2.2 hX.2.2.2.2.1 hX.2.2.2.2.2.2.1 hR.1 a hg hq k hkq hw2 (fun _ h9 => h9) hv2 hd (hJ p e s m args below meth c H locs ls hX hR hz1 hz2 hlo hL)
              · rw [if_neg hn] at hw2
                exact va_getN hX.1 hX.2.1 hX.2.2.2.2.2.1 (m_cl_spec hq).2.2 hX.2.2.2.2.1 hX.2.2.2.2.2.2.1 hR.1 a hg hq k hkq hw2 (fun _ h9 => h9) hv2 hd (hJ p e s m args below meth c H locs ls hX hR hz1 hz2 hlo hL)
            · cases hs
        · cases hs
      · cases hs
    · cases hs
  | putfield i =>
    dsimp only [m_ins] at hs
    split at hs
    · rename_i v a r
      split at hs
      · rename_i c0 k n hft
        split at hs
        · rename_i c2 fs hh
          cases hc : ((c0 == c2) && Nat.blt k fs.length && m_fit (m_tyf c0 k) v && (!(m_fin c0 k) || (decide (M.1.name = "<init>") && (n == 0) && (m_owns.getD M.2.2.2.2.2.1 "" == ((m_cl.getD c0 (RX0, TX0, 2)).2.1 k).1)))) with
          | false => rw [hc] at hs; cases hs
          | true =>
            rw [hc] at hs
            cases hs
            simp only [Bool.and_eq_true, Bool.or_eq_true, Bool.not_eq_true', beq_iff_eq, decide_eq_true_eq] at hc
            obtain ⟨⟨⟨hc2, hkl⟩, hfit⟩, hfin⟩ := hc
            subst hc2
            have hkl2 : k < fs.length := by simpa [Nat.blt_eq] using hkl
            have hd := hd0 rfl
            obtain ⟨q, hq, hkq, hw⟩ := m_ft_spec hft
            obtain ⟨C, TT, N⟩ := q
            have hgd : m_cl.getD c0 (RX0, TX0, 2) = (C, TT, N) := by rw [List.getD_eq_getElem?_getD, hq]; rfl
            intro p e s m args below meth c H locs ls hX hR hz1 hz2 hlo hL
            have hw2 := hX.2.2.2.2.2.1 _ hw
            have hg := m_W_get (E := E) hh
            unfold m_FTw at hw2
            dsimp only at hw2
            rw [m_own hM] at hw2
            obtain ⟨hty, hnm, hin⟩ := m_cl_spec hq
            have hS : va_S (fun q => E.1 ≤ q) E.2.2.2.2 H locs := ⟨by rw [hR.2.2.2.2.2]; exact Nat.le_trans (Nat.le_add_right _ _) hR.2.1, fun q h1 _ => hR.2.2.2.1 q (by rw [← hR.2.2.2.2.2]; exact h1), hlo⟩
            obtain ⟨hnar, hft2⟩ := m_fit_ok E hfit
            have hlen : k < (fs.map (m_v E)).length := by simpa using hkl2
            have kk : ∀ (H1 : Heap) (locs1 : List Loc), va_P E.2.2.1 m_cl ((m_W E h).set a (m_ad E a, .inr (c0, (fs.map (m_v E)).set k (m_v E v)))) H1 → va_D (fun q => E.1 ≤ q) ((m_W E h).set a (m_ad E a, .inr (c0, (fs.map (m_v E)).set k (m_v E v)))) → va_S (fun q => E.1 ≤ q) E.2.2.2.2 H1 locs1 →
                W p l e (m_rm d mc ms) s m args below meth c H1 locs1 kc ks (vx_MQ below (m_Qc E PR) (m_XC E PX) args s mc ms (fun q => E.1 ≤ q)) (F0 m (pc + 3) ls (r.map (m_v E))) := by
              intro H1 locs1 hP1 _ hS1
              have e9 : (Sum.inr (c0, (fs.map (m_v E)).set k (m_v E v)) : va_E) = m_c E (.inr (c0, fs.set k v)) := by simp [m_c, List.map_set]
              rw [e9, m_W_set] at hP1
              exact m_back hz1 hz2 hR hP1 (by simp) hS1 (fun H9 hR9 hs9 hz9 => hJ p e s m args below meth c H9 locs1 ls hX hR9 hs9 hz9 hS1.2.2 hL)
            by_cases hfb : (TT k).2.2.2 = true
            · have hfin2 : m_fin c0 k = true := by unfold m_fin; rw [hgd]; exact hfb
              rcases hfin with hf | ⟨⟨hini, hn0⟩, hown⟩
              · rw [hfin2] at hf; cases hf
              · rw [hgd] at hown
                rw [if_pos hn0] at hw2
                exact va_putF hX.1 hX.2.1 hX.2.2.2.2.2.1 hin (m_tyf c0) hty hnm hX.2.2.2.2.1 hX.2.2.2.2.2.2.1 hR.1 (m_D hR.2.2.2.2.1) hS a hg hq k hkq hw2 (fun _ h9 => h9) hfb (by rw [hX.2.2.2.2.2.2.2.2.1]; exact hini) (by rw [← m_own hM]; exact hown.symm) (hty k hkq) hnar hft2 hlen hd kk
            · have hfb2 : (TT k).2.2.2 = false := by simpa using hfb
              by_cases hn : n = 0
              · rw [if_pos hn] at hw2
                exact va_put hX.1 hX.2.1 hX.2.2.2.2.2.1 hin (m_tyf c0) hty hnm hX.2.2.2.2.1 hX.2.2.2.2.2.2.1 hR.1 (m_D hR.2.2.2.2.1) hS a hg hq k hkq hw2 (fun _ h9 => h9) hfb2 (hty k hkq) hnar hft2 hlen hd kk
              · rw [if_neg hn] at hw2
                exact va_putN hX.1 hX.2.1 hX.2.2.2.2.2.1 hin (m_tyf c0) hty hnm hX.2.2.2.2.1 hX.2.2.2.2.2.2.1 hR.1 (m_D hR.2.2.2.2.1) hS a hg hq k hkq hw2 (fun _ h9 => h9) hfb2 (hty k hkq) hnar hft2 hlen hd kk
        · cases hs
      · cases hs
    · cases hs
  | iaload =>
    dsimp only [m_ins] at hs
    split at hs
    · rename_i i a r
      split at hs
      · rename_i n f hh
        cases hs
        have hd := hd0 rfl
        intro p e s m args below meth c H locs ls hX hR hz1 hz2 hlo hL
        have hg := m_W_get (E := E) hh
        exact va_iald hX.1 hX.2.1 hX.2.2.2.2.2.2.1 hR.1 a 0 hg (m_tys_get E rfl) hC hd (hJ p e s m args below meth c H locs ls hX hR hz1 hz2 hlo hL)
      · cases hs
    · cases hs
  | laload =>
    dsimp only [m_ins] at hs
    split at hs
    · rename_i i a r
      split at hs
      · rename_i n f hh
        cases hs
        have hd := hd0 rfl
        intro p e s m args below meth c H locs ls hX hR hz1 hz2 hlo hL
        have hg := m_W_get (E := E) hh
        exact va_lald hX.1 hX.2.1 hX.2.2.2.2.2.2.1 hR.1 a 1 hg (m_tys_get E rfl) hC hd (hJ p e s m args below meth c H locs ls hX hR hz1 hz2 hlo hL)
      · cases hs
    · cases hs
  | baload =>
    dsimp only [m_ins] at hs
    split at hs
    · rename_i i a r
      split at hs
      · rename_i n f hh
        cases hs
        have hd := hd0 rfl
        intro p e s m args below meth c H locs ls hX hR hz1 hz2 hlo hL
        have hg := m_W_get (E := E) hh
        exact va_bald hX.1 hX.2.1 hX.2.2.2.2.2.2.1 hR.1 a 2 hg (m_tys_get E rfl) hC hd (hJ p e s m args below meth c H locs ls hX hR hz1 hz2 hlo hL)
      · rename_i n f hh
        cases hs
        have hd := hd0 rfl
        intro p e s m args below meth c H locs ls hX hR hz1 hz2 hlo hL
        have hg := m_W_get (E := E) hh
        exact va_zald hX.1 hX.2.1 hX.2.2.2.2.2.2.1 hR.1 a 3 hg (m_tys_get E rfl) hC hd (hJ p e s m args below meth c H locs ls hX hR hz1 hz2 hlo hL)
      · cases hs
    · cases hs
  | iastore =>
    dsimp only [m_ins] at hs
    split at hs
    · rename_i x i a r
      split at hs
      · rename_i n f hh
        cases hs
        have hd := hd0 rfl
        intro p e s m args below meth c H locs ls hX hR hz1 hz2 hlo hL
        have hg := m_W_get (E := E) hh
        have hS : va_S (fun q => E.1 ≤ q) E.2.2.2.2 H locs := ⟨by rw [hR.2.2.2.2.2]; exact Nat.le_trans (Nat.le_add_right _ _) hR.2.1, fun q h1 _ => hR.2.2.2.1 q (by rw [← hR.2.2.2.2.2]; exact h1), hlo⟩
        refine va_iast hX.1 hX.2.1 hX.2.2.2.2.2.2.1 hR.1 (m_D hR.2.2.2.2.1) hS a 0 hg (m_tys_get E rfl) hC hd (fun H1 locs1 hP1 _ hS1 => ?_)
        have hP1 : va_P E.2.2.1 m_cl ((m_W E h).set a (m_ad E a, m_c E (.inl (0, n, .inl (upd f i.toNatClampNeg x))))) H1 := hP1
        rw [m_W_set] at hP1
        exact m_back hz1 hz2 hR hP1 (by simp) hS1 (fun H9 hR9 hs9 hz9 => hJ p e s m args below meth c H9 locs1 ls hX hR9 hs9 hz9 hS1.2.2 hL)
      · cases hs
    · cases hs
  | lastore =>
    dsimp only [m_ins] at hs
    split at hs
    · rename_i x i a r
      split at hs
      · rename_i n f hh
        cases hs
        have hd := hd0 rfl
        intro p e s m args below meth c H locs ls hX hR hz1 hz2 hlo hL
        have hg := m_W_get (E := E) hh
        have hS : va_S (fun q => E.1 ≤ q) E.2.2.2.2 H locs := ⟨by rw [hR.2.2.2.2.2]; exact Nat.le_trans (Nat.le_add_right _ _) hR.2.1, fun q h1 _ => hR.2.2.2.1 q (by rw [← hR.2.2.2.2.2]; exact h1), hlo⟩
        refine va_last hX.1 hX.2.1 hX.2.2.2.2.2.2.1 hR.1 (m_D hR.2.2.2.2.1) hS a 1 hg (m_tys_get E rfl) hC hd (fun H1 locs1 hP1 _ hS1 => ?_)
        have hP1 : va_P E.2.2.1 m_cl ((m_W E h).set a (m_ad E a, m_c E (.inl (1, n, .inr (.inl (vp_updL f i.toNatClampNeg x)))))) H1 := hP1
        rw [m_W_set] at hP1
        exact m_back hz1 hz2 hR hP1 (by simp) hS1 (fun H9 hR9 hs9 hz9 => hJ p e s m args below meth c H9 locs1 ls hX hR9 hs9 hz9 hS1.2.2 hL)
      · cases hs
    · cases hs
  | bastore =>
    dsimp only [m_ins] at hs
    split at hs
    · rename_i x i a r
      split at hs
      · rename_i n f hh
        cases hs
        have hd := hd0 rfl
        intro p e s m args below meth c H locs ls hX hR hz1 hz2 hlo hL
        have hg := m_W_get (E := E) hh
        have hS : va_S (fun q => E.1 ≤ q) E.2.2.2.2 H locs := ⟨by rw [hR.2.2.2.2.2]; exact Nat.le_trans (Nat.le_add_right _ _) hR.2.1, fun q h1 _ => hR.2.2.2.1 q (by rw [← hR.2.2.2.2.2]; exact h1), hlo⟩
        refine va_bast hX.1 hX.2.1 hX.2.2.2.2.2.2.1 hR.1 (m_D hR.2.2.2.2.1) hS a 2 hg (m_tys_get E rfl) hC hd (fun H1 locs1 hP1 _ hS1 => ?_)
        have hP1 : va_P E.2.2.1 m_cl ((m_W E h).set a (m_ad E a, m_c E (.inl (2, n, .inl (upd f i.toNatClampNeg (vp_nar .byte x)))))) H1 := hP1
        rw [m_W_set] at hP1
        exact m_back hz1 hz2 hR hP1 (by simp) hS1 (fun H9 hR9 hs9 hz9 => hJ p e s m args below meth c H9 locs1 ls hX hR9 hs9 hz9 hS1.2.2 hL)
      · rename_i n f hh
        cases hs
        have hd := hd0 rfl
        intro p e s m args below meth c H locs ls hX hR hz1 hz2 hlo hL
        have hg := m_W_get (E := E) hh
        have hS : va_S (fun q => E.1 ≤ q) E.2.2.2.2 H locs := ⟨by rw [hR.2.2.2.2.2]; exact Nat.le_trans (Nat.le_add_right _ _) hR.2.1, fun q h1 _ => hR.2.2.2.1 q (by rw [← hR.2.2.2.2.2]; exact h1), hlo⟩
        refine va_zast hX.1 hX.2.1 hX.2.2.2.2.2.2.1 hR.1 (m_D hR.2.2.2.2.1) hS a 3 hg (m_tys_get E rfl) hC hd (fun H1 locs1 hP1 _ hS1 => ?_)
        have hP1 : va_P E.2.2.1 m_cl ((m_W E h).set a (m_ad E a, m_c E (.inl (3, n, .inl (upd f i.toNatClampNeg (vp_nar .boolean x)))))) H1 := hP1
        rw [m_W_set] at hP1
        exact m_back hz1 hz2 hR hP1 (by simp) hS1 (fun H9 hR9 hs9 hz9 => hJ p e s m args below meth c H9 locs1 ls hX hR9 hs9 hz9 hS1.2.2 hL)
      · cases hs
    · cases hs
  | aaload =>
    dsimp only [m_ins] at hs
    split at hs
    · rename_i i a r
      split at hs
      · rename_i t n f hh
        cases hc : (Nat.ble 4 t && Nat.ble t 6) with
        | false => rw [hc] at hs; cases hs
        | true =>
          rw [hc] at hs
          cases hs
          simp only [Bool.and_eq_true, Nat.ble_eq] at hc
          have hd := hd0 rfl
          intro p e s m args below meth c H locs ls hX hR hz1 hz2 hlo hL
          have hg := m_W_get (E := E) hh
          have hw := hJ p e s m args below meth c H locs ls hX hR hz1 hz2 hlo hL
          have ev : m_v E (m_rf (f i.toNatClampNeg)) = va_rf ((f i.toNatClampNeg).map (m_ad E)) := by cases f i.toNatClampNeg <;> rfl
          have hw : W p l e (m_rm d mc ms) s m args below meth c H locs kc ks (vx_MQ below (m_Qc E PR) (m_XC E PX) args s mc ms (fun q => E.1 ≤ q)) (F0 m (pc + 1) ls (va_rf ((f i.toNatClampNeg).map (m_ad E)) :: r.map (m_v E))) := by rw [← ev]; exact hw
          have hK := hX.2.2.2.2.2.2.1
          rcases (show ∀ z : Nat, 4 ≤ z ∧ z ≤ 6 → z = 4 ∨ z = 5 ∨ z = 6 by omega) _ hc with rfl | rfl | rfl
          · exact va_aldq hX.1 hX.2.1 hK hR.1 a 4 hg (m_tys_get E rfl) hC hd hw
          · exact va_aldq hX.1 hX.2.1 hK hR.1 a 5 hg (m_tys_get E rfl) hC hd hw
          · have hlt : i.toNatClampNeg < n := Nat.not_le.mp fun q => hC (Or.inr q)
            exact W.aald (v := va_rf ((f i.toNatClampNeg).map (m_ad E))) (ty := .array .long) hX.1 hX.2.1 (hR.1 a _ hg) ((hK.2 6 _ (m_tys_get E rfl)).1 n (fun j => va_rf ((f j).map (m_ad E)))) rfl (fun q => by cases q) (by show ¬ (i < 0 ∨ (arrV _ _ _).slots.size ≤ _); rw [arrV_size]; exact hC) (by show (arrV _ _ _).slots[_]? = _; rw [arrV_read _ _ hlt]) rfl rfl hd hw
      · cases hs
    · cases hs
  | aastore =>
    dsimp only [m_ins] at hs
    split at hs
    · rename_i b i a r
      split at hs
      · rename_i t n f c0 vs hh hb9
        cases hc : ((t == 4 && c0 == 2) || (t == 5 && c0 == 6)) with
        | false => rw [hc] at hs; cases hs
        | true =>
          rw [hc] at hs
          cases hs
          simp only [Bool.and_eq_true, Bool.or_eq_true, beq_iff_eq] at hc
          have hd := hd0 rfl
          intro p e s m args below meth c H locs ls hX hR hz1 hz2 hlo hL
          have hg := m_W_get (E := E) hh
          have hgb := m_W_get (E := E) hb9
          have hK := hX.2.2.2.2.2.2.1
          have hS : va_S (fun q => E.1 ≤ q) E.2.2.2.2 H locs := ⟨by rw [hR.2.2.2.2.2]; exact Nat.le_trans (Nat.le_add_right _ _) hR.2.1, fun q h1 _ => hR.2.2.2.1 q (by rw [← hR.2.2.2.2.2]; exact h1), hlo⟩
          have kk : ∀ (H1 : Heap) (locs1 : List Loc), va_P E.2.2.1 m_cl ((m_W E h).set a (m_ad E a, .inl (E.2.2.2.1 t, n, .inr (.inr (.inr (.inr (va_up (fun i => (f i).map (m_ad E)) i.toNatClampNeg (some (m_ad E b))))))))) H1 → va_D (fun q => E.1 ≤ q) ((m_W E h).set a (m_ad E a, .inl (E.2.2.2.1 t, n, .inr (.inr (.inr (.inr (va_up (fun i => (f i).map (m_ad E)) i.toNatClampNeg (some (m_ad E b))))))))) → va_S (fun q => E.1 ≤ q) E.2.2.2.2 H1 locs1 →
              W p l e (m_rm d mc ms) s m args below meth c H1 locs1 kc ks (vx_MQ below (m_Qc E PR) (m_XC E PX) args s mc ms (fun q => E.1 ≤ q)) (F0 m (pc + 1) ls (r.map (m_v E))) := by
            intro H1 locs1 hP1 _ hS1
            have e9 : (Sum.inl (E.2.2.2.1 t, n, .inr (.inr (.inr (.inr (va_up (fun i => (f i).map (m_ad E)) i.toNatClampNeg (some (m_ad E b))))))) : va_E) = m_c E (.inl (t, n, .inr (.inr (.inr (.inr (va_up f i.toNatClampNeg (some b))))))) := by
              simp only [m_c]
              rw [m_up]
            rw [e9, m_W_set] at hP1
            exact m_back hz1 hz2 hR hP1 (by simp) hS1 (fun H9 hR9 hs9 hz9 => hJ p e s m args below meth c H9 locs1 ls hX hR9 hs9 hz9 hS1.2.2 hL)
          rcases hc with ⟨rfl, rfl⟩ | ⟨rfl, rfl⟩
          · exact va_astq hX.1 hX.2.1 hK hR.1 (m_D hR.2.2.2.2.1) hS a 4 b 2 hg (m_tys_get E rfl) hgb rfl hC hd kk
          · exact va_astq hX.1 hX.2.1 hK hR.1 (m_D hR.2.2.2.2.1) hS a 5 b 6 hg (m_tys_get E rfl) hgb rfl hC hd kk
      · cases hs
    · cases hs
  | arraylength =>
    dsimp only [m_ins] at hs
    split at hs
    · rename_i a r
      split at hs
      · rename_i t n f hh
        cases hc : ((t == 0) || (t == 2)) with
        | false => rw [hc] at hs; cases hs
        | true =>
          rw [hc] at hs
          cases hs
          simp only [Bool.or_eq_true, beq_iff_eq] at hc
          have hd := hd0 rfl
          intro p e s m args below meth c H locs ls hX hR hz1 hz2 hlo hL
          have hg := m_W_get (E := E) hh
          have hw := hJ p e s m args below meth c H locs ls hX hR hz1 hz2 hlo hL
          rcases hc with rfl | rfl
          · exact va_alen hX.1 hX.2.1 hX.2.2.2.2.2.2.1 hR.1 a 0 hg (m_tys_get E rfl) rfl hd hw
          · exact va_alen hX.1 hX.2.1 hX.2.2.2.2.2.2.1 hR.1 a 2 hg (m_tys_get E rfl) rfl hd hw
      · cases hs
    · cases hs
  | _ => cases hs
