/-! tables of the small machine: written by wip/gen_tabs.py -/
def m_owns : List String := [RX0, RX1, RX2, RX3, RX4, RX5, RX6, RX7, RX8, RX9, RJ6, RJ13, RJ9, RL, RJ0, RJ1, RJ3]
/-- (own class, index) to (class, field, 1 if a nest mate's) -/
def m_FT : List ((Nat × Nat) × (Nat × Nat × Nat)) := [((6, 11), (5, 0, 0)), ((6, 15), (5, 1, 0)), ((8, 91), (5, 1, 1)), ((3, 144), (5, 1, 1)), ((3, 9), (3, 0, 0)), ((3, 15), (3, 1, 0)), ((3, 19), (3, 2, 0)), ((7, 9), (6, 0, 0)), ((1, 36), (6, 0, 1)), ((2, 61), (6, 0, 1)), ((1, 12), (1, 0, 0)), ((4, 54), (1, 0, 1)), ((2, 42), (1, 0, 1)), ((8, 104), (1, 0, 1)), ((0, 48), (1, 0, 1)), ((1, 18), (1, 1, 0)), ((2, 50), (1, 1, 1)), ((8, 210), (1, 1, 1)), ((1, 24), (1, 2, 0)), ((2, 38), (1, 2, 1)), ((2, 7), (2, 0, 0)), ((3, 88), (2, 0, 1)), ((2, 16), (2, 1, 0)), ((3, 72), (2, 1, 1)), ((2, 19), (2, 2, 0)), ((3, 91), (2, 2, 1)), ((3, 116), (2, 3, 1)), ((0, 70), (2, 3, 1)), ((2, 22), (2, 4, 0)), ((3, 94), (2, 4, 1)), ((2, 31), (2, 5, 0)), ((3, 99), (2, 5, 1)), ((2, 13), (2, 6, 0)), ((3, 83), (2, 6, 1)), ((0, 11), (0, 0, 0)), ((3, 36), (0, 0, 1)), ((8, 153), (0, 0, 1)), ((0, 18), (0, 1, 0)), ((3, 22), (0, 1, 1)), ((8, 143), (0, 1, 1)), ((4, 14), (4, 0, 0)), ((4, 20), (4, 1, 0)), ((4, 27), (4, 2, 0)), ((8, 188), (4, 2, 1)), ((4, 31), (4, 3, 0)), ((8, 200), (4, 3, 1)), ((4, 34), (4, 4, 0)), ((4, 38), (4, 5, 0)), ((4, 42), (4, 6, 0)), ((8, 177), (4, 6, 1)), ((4, 46), (4, 7, 0)), ((8, 185), (4, 7, 1)), ((8, 12), (7, 0, 0)), ((8, 21), (7, 1, 0)), ((8, 28), (7, 2, 0)), ((8, 58), (7, 3, 0)), ((8, 35), (7, 4, 0)), ((8, 39), (7, 5, 0)), ((8, 46), (7, 6, 0)), ((8, 50), (7, 7, 0)), ((8, 62), (7, 8, 0)), ((8, 66), (7, 9, 0)), ((8, 70), (7, 10, 0)), ((8, 73), (7, 11, 0)), ((8, 76), (7, 12, 0)), ((8, 79), (7, 13, 0)), ((9, 79), (8, 0, 0)), ((9, 9), (8, 1, 0)), ((9, 13), (8, 2, 0)), ((9, 16), (8, 3, 0)), ((9, 106), (8, 4, 0)), ((9, 109), (8, 5, 0)), ((9, 244), (8, 6, 0)), ((9, 20), (8, 7, 0)), ((9, 23), (8, 8, 0)), ((9, 26), (8, 9, 0)), ((9, 29), (8, 10, 0)), ((9, 32), (8, 11, 0)), ((9, 35), (8, 12, 0)), ((9, 38), (8, 13, 0)), ((9, 210), (8, 14, 0)), ((9, 41), (8, 15, 0)), ((9, 272), (8, 16, 0)), ((9, 44), (8, 17, 0)), ((9, 116), (8, 18, 0)), ((9, 119), (8, 19, 0)), ((9, 122), (8, 20, 0)), ((9, 129), (8, 21, 0)), ((9, 48), (8, 22, 0)), ((9, 52), (8, 23, 0)), ((9, 55), (8, 24, 0)), ((9, 58), (8, 25, 0)), ((9, 61), (8, 26, 0)), ((9, 64), (8, 27, 0)), ((9, 67), (8, 28, 0)), ((9, 70), (8, 29, 0)), ((9, 73), (8, 30, 0)), ((9, 260), (8, 31, 0)), ((9, 76), (8, 32, 0))]
def m_CT : List ((Nat × Nat) × Value) := [((7, 17), .long (1152921504606846975)), ((5, 28), .long (-1)), ((11, 314), .long (6148914691236517205)), ((11, 316), .long (3689348814741910323)), ((11, 318), .long (1085102592571150095)), ((5, 30), .long (-577024252550054401)), ((5, 32), .long (-1127000493261826)), ((5, 34), .long (1152921504606846975)), ((4, 49), .int (-1000000000)), ((7, 23), .long (-1)), ((10, 265), .int (1431655765)), ((10, 266), .int (858993459)), ((10, 267), .int (252645135)), ((8, 232), .long (1152921504606846975)), ((8, 234), .long (-1))]
def m_tyf (c : Nat) : Nat → FieldType := match c with
  | 0 => tyX0
  | 1 => tyX1
  | 2 => tyX2
  | 3 => tyX3
  | 4 => tyX4
  | 5 => tyX6
  | 6 => tyX7
  | 7 => tyX8
  | _ => tyX9
theorem m_lw_mem {w : Cond} (i : Nat) (h : lw_tbl[i]? = some w) : w ∈ lw_tbl := List.mem_of_getElem? h
def m_in (w : Cond) : Bool := decide (w ∈ lw_tbl) && m_good w
theorem m_in_mem {w : Cond} (h : m_in w = true) : w ∈ m_tbl := by
  simp only [m_in, Bool.and_eq_true, decide_eq_true_eq] at h
  exact List.mem_filter.mpr h
/-- a field's row, against the words -/
def m_FTw (q : (Nat × Nat) × (Nat × Nat × Nat)) (r : vw_C) : Cond := if q.2.2.2 = 0 then Cond.fieldLink (m_owns.getD q.1.1 "") q.1.2 (r.2.1 q.2.2.1).1 (r.2.1 q.2.2.1).2.1 (r.2.1 q.2.2.1).2.2.1 else Cond.fieldLinkNest (m_owns.getD q.1.1 "") q.1.2 (r.2.1 q.2.2.1).1 (r.2.1 q.2.2.1).2.1 (r.2.1 q.2.2.1).2.2.1 "LandUses"
def m_FTok (q : (Nat × Nat) × (Nat × Nat × Nat)) : Bool := match m_cl[q.2.1]? with
  | none => false
  | some r => decide (q.2.2.1 < r.2.2) && m_in (m_FTw q r)
set_option maxRecDepth 100000 in
theorem m_FT_ok : m_FT.all m_FTok = true := by decide +kernel
def m_CTw (q : (Nat × Nat) × Value) : Cond := match q.2 with
  | .int v => Cond.constant (m_owns.getD q.1.1 "") q.1.2 v
  | .long v => Cond.constantLong (m_owns.getD q.1.1 "") q.1.2 v
  | _ => .tt
set_option maxRecDepth 100000 in
theorem m_CT_ok : m_CT.all (fun q => m_in (m_CTw q)) = true := by decide +kernel
set_option maxRecDepth 100000 in
theorem m_iX : m_cl.all (fun r => (u_ws r.1 r.2.1 r.2.2).all m_in) = true := by decide +kernel
theorem m_ft_spec {o i c k n : Nat} (h : m_FT.lookup (o, i) = some (c, k, n)) : ∃ r, m_cl[c]? = some r ∧ k < r.2.2 ∧ m_FTw ((o, i), (c, k, n)) r ∈ m_tbl := by
  have hm : ((o, i), (c, k, n)) ∈ m_FT := by
    obtain ⟨l1, l2, e, -⟩ := List.lookup_eq_some_iff.mp h
    rw [e]; simp
  have := List.all_eq_true.mp m_FT_ok _ hm
  unfold m_FTok at this
  dsimp only at this
  cases hc : m_cl[c]? with
  | none => rw [hc] at this; cases this
  | some r =>
    rw [hc] at this
    simp only [Bool.and_eq_true, decide_eq_true_eq] at this
    exact ⟨r, rfl, this.1, m_in_mem this.2⟩
theorem m_ct_spec {o i : Nat} {v : Value} (h : m_CT.lookup (o, i) = some v) : m_CTw ((o, i), v) ∈ m_tbl := by
  have hm : ((o, i), v) ∈ m_CT := by
    obtain ⟨l1, l2, e, -⟩ := List.lookup_eq_some_iff.mp h
    rw [e]; simp
  exact m_in_mem (List.all_eq_true.mp m_CT_ok _ hm)
theorem m_cl_spec {c : Nat} {r : vw_C} (h : m_cl[c]? = some r) : (∀ k, k < r.2.2 → parseFieldDescriptor (r.2.1 k).2.2.1 = some (m_tyf c k)) ∧ (∀ a, a < r.2.2 → ∀ b, b < r.2.2 → a ≠ b → (r.2.1 a).2.1 ≠ (r.2.1 b).2.1) ∧ ∀ w ∈ u_ws r.1 r.2.1 r.2.2, w ∈ m_tbl := by
  refine ⟨?_, ?_, fun w hw => m_in_mem (List.all_eq_true.mp (List.all_eq_true.mp m_iX r (List.mem_of_getElem? h)) w hw)⟩
  · match c, h with
    | 0, h => cases h; exact tyX0_ok
    | 1, h => cases h; exact tyX1_ok
    | 2, h => cases h; exact tyX2_ok
    | 3, h => cases h; exact tyX3_ok
    | 4, h => cases h; exact tyX4_ok
    | 5, h => cases h; exact tyX6_ok
    | 6, h => cases h; exact tyX7_ok
    | 7, h => cases h; exact tyX8_ok
    | 8, h => cases h; exact tyX9_ok
    | c + 9, h => simp [m_cl] at h
  · match c, h with
    | 0, h => cases h; exact nmX0
    | 1, h => cases h; exact nmX1
    | 2, h => cases h; exact nmX2
    | 3, h => cases h; exact nmX3
    | 4, h => cases h; exact nmX4
    | 5, h => cases h; exact nmX6
    | 6, h => cases h; exact nmX7
    | 7, h => cases h; exact nmX8
    | 8, h => cases h; exact nmX9
    | c + 9, h => simp [m_cl] at h
