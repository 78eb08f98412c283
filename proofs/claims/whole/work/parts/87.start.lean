/-! THE START: classes, arrays and texts as the claim gives them -/
def m_tm (i : Nat) : Term := .string (m_strs.getD i ("", 0, "")).1 (m_strs.getD i ("", 0, "")).2.1
def m_vt (i : Nat) : Term := .field (m_tm i) "java/lang/String" "value" "[B"
def m_blk (i : Nat) : List Cond := [.exactly (m_tm i) "java/lang/String", .eq (.field (m_tm i) "java/lang/String" "coder" "B") (.int 0), .arrayOf (m_vt i) .byte, .eq (.length (m_vt i)) (.int (Int32.ofNat (m_tx i).length))] ++ (List.range (m_tx i).length).map (fun j => .eq (.elem (m_vt i) (.int (Int32.ofNat j))) (.int (nI ((m_tx i).getD j 0))))
def m_twn : List Nat := [3, 4, 5, 6, 7, 8, 12, 9, 10, 11, 13, 14, 15, 16, 17, 18]
def m_xt (i : Nat) : List Cond := if i < 26 then [] else [.eq (m_tm (m_twn.getD (i - 26) 0)) (m_tm i)]
def m_fl : List Cond := flatC (Cond.and given_1 narrow_1)
set_option maxRecDepth 20000 in
theorem m_fl_ok : m_fl.drop 44 = (List.range 42).flatMap (fun i => m_blk i ++ m_xt i) := by decide +kernel
theorem m_blk_in {i : Nat} (hi : i < 42) {w : Cond} (hw : w ∈ m_blk i) : w ∈ m_fl := by
  refine List.mem_of_mem_drop (i := 44) ?_
  rw [m_fl_ok]
  exact List.mem_flatMap.mpr ⟨i, List.mem_range.mpr hi, List.mem_append.mpr (Or.inl hw)⟩
theorem m_str_in : ∀ i, i < 42 → Cond.stringRef (m_strs.getD i ("", 0, "")).1 (m_strs.getD i ("", 0, "")).2.1 (m_strs.getD i ("", 0, "")).2.2 ∈ lw_tbl := by decide +kernel
theorem m_kn0 : (u_ws RX0 TX0 2).all (fun w => decide (w ∈ lw_tbl)) = true ∧ Cond.instantiable RX0 2 ∈ lw_tbl := by decide +kernel
theorem m_kn1 : (u_ws RX1 TX1 3).all (fun w => decide (w ∈ lw_tbl)) = true ∧ Cond.instantiable RX1 3 ∈ lw_tbl := by decide +kernel
theorem m_kn2 : (u_ws RX2 TX2 7).all (fun w => decide (w ∈ lw_tbl)) = true ∧ Cond.instantiable RX2 7 ∈ lw_tbl := by decide +kernel
theorem m_kn3 : (u_ws RX3 TX3 3).all (fun w => decide (w ∈ lw_tbl)) = true ∧ Cond.instantiable RX3 3 ∈ lw_tbl := by decide +kernel
theorem m_kn4 : (u_ws RX4 TX4 8).all (fun w => decide (w ∈ lw_tbl)) = true ∧ Cond.instantiable RX4 8 ∈ lw_tbl := by decide +kernel
theorem m_kn5 : (u_ws RX6 TX6 2).all (fun w => decide (w ∈ lw_tbl)) = true ∧ Cond.instantiable RX6 2 ∈ lw_tbl := by decide +kernel
theorem m_kn6 : (u_ws RX7 TX7 1).all (fun w => decide (w ∈ lw_tbl)) = true ∧ Cond.instantiable RX7 1 ∈ lw_tbl := by decide +kernel
theorem m_kn7 : (u_ws RX8 TX8 14).all (fun w => decide (w ∈ lw_tbl)) = true ∧ Cond.instantiable RX8 14 ∈ lw_tbl := by decide +kernel
theorem m_kn8 : (u_ws RX9 TX9 33).all (fun w => decide (w ∈ lw_tbl)) = true ∧ Cond.instantiable RX9 33 ∈ lw_tbl := by decide +kernel
theorem m_aw : ([.arrayClass .int, .arrayClass .long, .arrayClass .byte, .arrayClass .boolean, .arrayOver (.object "LandUses$Line"), .arrayOver (.object "LandUses$Uses"), .arrayOver (.array .long), .laysStatic Bundle.tN "UNASSIGNED_STACK" Bundle.steD, .laysStatic Bundle.tN "SUPPRESSED_SENTINEL" Bundle.listD, .initialized Bundle.tN, .laysStatic "java/lang/String" "COMPACT_STRINGS" "Z", .initialized "java/lang/String", .laysStatic "jdk/internal/util/Preconditions" "SIOOBE_FORMATTER" "Ljava/util/function/BiFunction;", .initialized "jdk/internal/util/Preconditions"] : List Cond).all (fun w => decide (w ∈ lw_tbl)) = true := by decide +kernel
theorem m_aw_in {w : Cond} {args : Array Value} {s : State} (hts : ∀ w ∈ lw_tbl, w.before args s = true) {L : List Cond} (hL : L.all (fun w => decide (w ∈ lw_tbl)) = true) (hw : w ∈ L) : w.before args s = true := hts w (of_decide_eq_true (List.all_eq_true.mp hL w hw))
theorem m_kn {r : String} {T : u_T} {n : Nat} {args : Array Value} {s : State} (hts : ∀ w ∈ lw_tbl, w.before args s = true) (h : (u_ws r T n).all (fun w => decide (w ∈ lw_tbl)) = true ∧ Cond.instantiable r n ∈ lw_tbl) : ∃ (cC : ClassId) (iS : Nat → Nat), u_Kn s r T n cC iS := u_known hts (fun w hw => of_decide_eq_true (List.all_eq_true.mp h.1 w hw)) (hts _ h.2)
theorem m_ac1 {args : Array Value} {s : State} {ty : FieldType} (h : (Cond.arrayClass ty).before args s = true) : ∃ c : ClassId, ArrOfT s c ty ∧ s.vm.findClass ("[" ++ ty.toString) = some c := by
  obtain ⟨c, k, comp, h1, h2, h3⟩ := Cond.arrayClass_spec (args := args) (first := s) (o := none) (s := s) (idx := []) h
  exact ⟨c, fun n z => ⟨(fun k h => by cases h), k, h2, comp, h3⟩, h1⟩
theorem m_ac2 {args : Array Value} {s : State} {C : String} (h : (Cond.arrayOver (.object C)).before args s = true) : ∃ c : ClassId, ArrOfT s c (.object C) ∧ va_RA s c (.object C) := by
  obtain ⟨comp, c, k, h1, h2, h3, h4, h5⟩ := Cond.arrayOver_spec (args := args) (first := s) (o := none) (s := s) (idx := []) h
  exact ⟨c, fun n z => ⟨(fun k h => by cases h), k, h3, comp, h4⟩, k, comp, h3, h4, h1, h5⟩
theorem m_ac3 {args : Array Value} {s : State} {t : FieldType} (h : (Cond.arrayOver (.array t)).before args s = true) : ∃ c : ClassId, ArrOfT s c (.array t) ∧ s.vm.findClass ("[" ++ (FieldType.array t).toString) = some c := by
  obtain ⟨comp, c, k, h1, h2, h3, h4⟩ := Cond.arrayOver_specA (args := args) (first := s) (o := none) (s := s) (idx := []) h
  exact ⟨c, fun n z => ⟨(fun k h => by cases h), k, h2, comp, h3⟩, h4⟩
theorem w_at0 {args : Array Value} {s : State} (hts : ∀ w ∈ lw_tbl, w.before args s = true) : ∃ (D : va_G) (ac : Nat → ClassId), ∀ extf : Nat → Nat, va_K D m_cl (m_tys (s.heap.size, extf, D, ac, s.heap)) s := by
  obtain ⟨c0, i0, k0⟩ := m_kn hts m_kn0
  obtain ⟨c1, i1, k1⟩ := m_kn hts m_kn1
  obtain ⟨c2, i2, k2⟩ := m_kn hts m_kn2
  obtain ⟨c3, i3, k3⟩ := m_kn hts m_kn3
  obtain ⟨c4, i4, k4⟩ := m_kn hts m_kn4
  obtain ⟨c5, i5, k5⟩ := m_kn hts m_kn5
  obtain ⟨c6, i6, k6⟩ := m_kn hts m_kn6
  obtain ⟨c7, i7, k7⟩ := m_kn hts m_kn7
  obtain ⟨c8, i8, k8⟩ := m_kn hts m_kn8
  obtain ⟨a0, p0, q0⟩ := m_ac1 (ty := .int) (m_aw_in hts m_aw (by simp))
  obtain ⟨a1, p1, q1⟩ := m_ac1 (ty := .long) (m_aw_in hts m_aw (by simp))
  obtain ⟨a2, p2, q2⟩ := m_ac1 (ty := .byte) (m_aw_in hts m_aw (by simp))
  obtain ⟨a3, p3, q3⟩ := m_ac1 (ty := .boolean) (m_aw_in hts m_aw (by simp))
  obtain ⟨a4, p4, q4⟩ := m_ac2 (C := "LandUses$Line") (m_aw_in hts m_aw (by simp))
  obtain ⟨a5, p5, q5⟩ := m_ac2 (C := "LandUses$Uses") (m_aw_in hts m_aw (by simp))
  obtain ⟨a6, p6, q6⟩ := m_ac3 (t := .long) (m_aw_in hts m_aw (by simp))
  refine ⟨((fun k => match k with | 0 => c0 | 1 => c1 | 2 => c2 | 3 => c3 | 4 => c4 | 5 => c5 | 6 => c6 | 7 => c7 | _ => c8), (fun k => match k with | 0 => i0 | 1 => i1 | 2 => i2 | 3 => i3 | 4 => i4 | 5 => i5 | 6 => i6 | 7 => i7 | _ => i8)), (fun k => match k with | 0 => a0 | 1 => a1 | 2 => a2 | 3 => a3 | 4 => a4 | 5 => a5 | _ => a6), fun extf => ⟨fun k q hq => ?_, fun k q hq => ?_⟩⟩
  · match k, hq with
    | 0, hq => cases hq; exact k0
    | 1, hq => cases hq; exact k1
    | 2, hq => cases hq; exact k2
    | 3, hq => cases hq; exact k3
    | 4, hq => cases hq; exact k4
    | 5, hq => cases hq; exact k5
    | 6, hq => cases hq; exact k6
    | 7, hq => cases hq; exact k7
    | 8, hq => cases hq; exact k8
    | k + 9, hq => simp [m_cl] at hq
  · match k, hq with
    | 0, hq => cases hq; exact ⟨p0, q0⟩
    | 1, hq => cases hq; exact ⟨p1, q1⟩
    | 2, hq => cases hq; exact ⟨p2, q2⟩
    | 3, hq => cases hq; exact ⟨p3, q3⟩
    | 4, hq => cases hq; exact ⟨p4, q4⟩
    | 5, hq => cases hq; exact ⟨p5, q5⟩
    | 6, hq => cases hq; exact ⟨p6, q6⟩
    | k + 7, hq => simp [m_tys, m_ty] at hq
theorem m_nc_ok : ∀ a ∈ m_exc, ∀ b ∈ m_exc, a ≠ b → Cond.not (.castable a b) ∈ m_fl := by decide +kernel
theorem m_fl_in : ([.isRef (.static Bundle.tN "UNASSIGNED_STACK" Bundle.steD), .isRef (.static Bundle.tN "SUPPRESSED_SENTINEL" Bundle.listD), .eq (.static "java/lang/String" "COMPACT_STRINGS" "Z") (.int 1), .isRef (.static "jdk/internal/util/Preconditions" "SIOOBE_FORMATTER" "Ljava/util/function/BiFunction;")] : List Cond).all (fun w => decide (w ∈ m_fl)) = true := by decide +kernel
set_option maxHeartbeats 1000000 in
theorem w_ex0 {s : State} {b L : Nat} {xs : Nat → Int32} (hts : ∀ w ∈ lw_tbl, w.before #[Value.ref b] s = true) (hX : va_X b L xs s s.heap) (hbl : b < s.heap.size) (hgv : (Jvm.Cond.and given_1 narrow_1).before #[Value.ref b] s = true) : ∃ extf : Nat → Nat, extf 1000000 = b ∧ ∀ (D : va_G) (ac : Nat → ClassId), m_EX (s.heap.size, extf, D, ac, s.heap) L xs s := by
  have hs : ∀ w ∈ m_fl, w.before #[Value.ref b] s = true := flat_of_before _ hgv
  have hf : ∀ w ∈ ([.isRef (.static Bundle.tN "UNASSIGNED_STACK" Bundle.steD), .isRef (.static Bundle.tN "SUPPRESSED_SENTINEL" Bundle.listD), .eq (.static "java/lang/String" "COMPACT_STRINGS" "Z") (.int 1), .isRef (.static "jdk/internal/util/Preconditions" "SIOOBE_FORMATTER" "Ljava/util/function/BiFunction;")] : List Cond), w.before #[Value.ref b] s = true := fun w hw => hs w (of_decide_eq_true (List.all_eq_true.mp m_fl_in w hw))
  have hA : ∀ a : Nat, a < s.heap.size → ¬ (fun q => s.heap.size ≤ q) a := fun a h h2 => absurd h2 (by simp only; omega)
  have h0 : ∀ i : Nat, ∃ q : Nat × Nat, i < 42 → (m_tm i).eval #[Value.ref b] s none [] s = some (.ref q.1) ∧ va_O "java/lang/String" q.1 (fun q => s.heap.size ≤ q) s s.heap ∧ va_OF "java/lang/String" "coder" "B" (.int 0) q.1 (fun q => s.heap.size ≤ q) s s.heap ∧ va_OF "java/lang/String" "value" "[B" (.ref q.2) q.1 (fun q => s.heap.size ≤ q) s s.heap ∧ va_T .byte q.2 (m_tx i).length (fun j => .int (nI ((m_tx i).getD j 0))) (fun q => s.heap.size ≤ q) s s.heap := by
    intro i
    by_cases hi : i < 42
    · have hb : ∀ w ∈ m_blk i, w.before #[Value.ref b] s = true := fun w hw => hs w (m_blk_in hi hw)
      obtain ⟨a, c, cA, kA, q1, q2, q3, q4, q5, q6, -⟩ := Cond.exactly_spec (args := #[Value.ref b]) (first := s) (o := none) (s := s) (idx := []) (t := m_tm i) (cls := "java/lang/String") (hb _ (by simp [m_blk]))
      have hl9 := (k_tx i hi).1
      obtain ⟨t, ht, hT⟩ := va_Tof (f := fun j => .int (nI ((m_tx i).getD j 0))) (A := fun q => s.heap.size ≤ q) (show (m_tx i).length < 2 ^ 31 by omega) (hb (.arrayOf (m_vt i) .byte) (by simp [m_blk])) (va_eqt (hb _ (by simp [m_blk]))) (fun j hj => va_eqt (hb _ (List.mem_append.mpr (Or.inr (List.mem_map.mpr ⟨j, List.mem_range.mpr hj, rfl⟩))))) hA
      exact ⟨(a, t), fun _ => ⟨q1, ⟨cA, q3, q5, by rw [q6]; exact q2, hA a (Array.getElem?_eq_some_iff.mp q3).1⟩, vk_OFof q1 (va_eqt (hb _ (by simp [m_blk]))) hA, vk_OFof q1 ht hA, hT⟩⟩
    · exact ⟨(0, 0), fun h => absurd h hi⟩
  obtain ⟨ad, had⟩ := Classical.axiomOfChoice h0
  have hfm := va_Zqof (A := fun q => s.heap.size ≤ q) (m_aw_in hts m_aw (w := .laysStatic "jdk/internal/util/Preconditions" "SIOOBE_FORMATTER" "Ljava/util/function/BiFunction;") (by simp)) (m_aw_in hts m_aw (w := .initialized "jdk/internal/util/Preconditions") (by simp)) (hf _ (by simp)) hA
  obtain ⟨t9, ht9⟩ : ∃ t9 : Nat, va_Z "jdk/internal/util/Preconditions" "SIOOBE_FORMATTER" "Ljava/util/function/BiFunction;" .null (fun q => s.heap.size ≤ q) s s.heap ∨ va_Z "jdk/internal/util/Preconditions" "SIOOBE_FORMATTER" "Ljava/util/function/BiFunction;" (.ref t9) (fun q => s.heap.size ≤ q) s s.heap := by
    rcases hfm with h | ⟨t, h⟩
    · exact ⟨0, Or.inl h⟩
    · exact ⟨t, Or.inr h⟩
  have e1 : ∀ i, i < 42 → (if 1000001 + i = 1000000 then b else if 1000001 + i = 3000000 then t9 else if 1000001 + i < 2000001 then (ad (1000001 + i - 1000001)).1 else (ad (1000001 + i - 2000001)).2) = (ad i).1 := fun i hi => by
    rw [if_neg (by omega), if_neg (by omega), if_pos (by omega), Nat.add_sub_cancel_left]
  have e2 : ∀ i, i < 42 → (if 2000001 + i = 1000000 then b else if 2000001 + i = 3000000 then t9 else if 2000001 + i < 2000001 then (ad (2000001 + i - 1000001)).1 else (ad (2000001 + i - 2000001)).2) = (ad i).2 := fun i hi => by
    rw [if_neg (by omega), if_neg (by omega), if_neg (by omega), Nat.add_sub_cancel_left]
  refine ⟨fun k => if k = 1000000 then b else if k = 3000000 then t9 else if k < 2000001 then (ad (k - 1000001)).1 else (ad (k - 2000001)).2, if_pos rfl, fun D ac => ⟨fun i q hq => ?_, ?_, ?_, ?_, fun a ha b9 hb9 hn => va_Nc.of (hs _ (m_nc_ok a ha b9 hb9 hn)), ?_, ?_, fun i hi => ?_, ?_, ?_⟩⟩
  · have hi : i < 42 := (List.getElem?_eq_some_iff.mp hq).1
    have eq : m_strs.getD i ("", 0, "") = q := by rw [List.getD_eq_getElem?_getD, hq]; rfl
    have h1 := hts _ (m_str_in i hi)
    have h2 := (had i hi).1
    unfold m_tm at h2
    rw [eq] at h1 h2
    show vk_R q.1 q.2.1 q.2.2 (if 1000001 + i = 1000000 then b else if 1000001 + i = 3000000 then t9 else if 1000001 + i < 2000001 then (ad (1000001 + i - 1000001)).1 else (ad (1000001 + i - 2000001)).2) s
    rw [e1 i hi]
    exact vk_R.of h1 h2
  · exact vx_Zqof (m_aw_in hts m_aw (by simp)) (m_aw_in hts m_aw (by simp)) (hf _ (by simp)) hA
  · exact vx_Zqof (m_aw_in hts m_aw (by simp)) (m_aw_in hts m_aw (by simp)) (hf _ (by simp)) hA
  · intro ty hty
    rcases List.mem_cons.mp hty with rfl | hty
    · exact va_AO.of (m_aw_in hts m_aw (by simp))
    · rcases List.mem_cons.mp hty with rfl | hty
      · exact va_AO.of (m_aw_in hts m_aw (by simp))
      · rcases List.mem_cons.mp hty with rfl | hty
        · exact (m_aw_in hts m_aw (w := .arrayOver (.array .long)) (by simp) : (Cond.arrayOver (.array .long)).before #[Value.ref b] s = true)
        · cases hty
  · exact hX
  · exact hbl
  · obtain ⟨-, a1, a2, a3, a4⟩ := had i hi
    simp only [e1 i hi, e2 i hi]
    exact ⟨a1, a2, a3, a4⟩
  · exact va_Zof (m_aw_in hts m_aw (by simp)) (m_aw_in hts m_aw (by simp)) (va_eqt (hf _ (by simp))) hA
  · exact ht9
