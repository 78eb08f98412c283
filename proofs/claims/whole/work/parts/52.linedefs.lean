/-! THE MODEL: what a line of text is -/
theorem y_wp_le {g : Nat → Int32} {n p : Nat} (h : p ≤ n) : y_wp g n p ≤ n := k_rl_le (by omega) (k_sb_le h).2
theorem y_np_le {g : Nat → Int32} {n p : Nat} (h : p ≤ n) : y_np g n p ≤ n := k_rl_le (by omega) (k_sb_le h).2
theorem y_uq_lt {g : Nat → Int32} {n p v : Nat} (h : y_uq g n p = some v) : v < 5 := by
  unfold y_uq at h
  repeat' split at h
  all_goals first | (cases h; omega) | cases h
theorem y_num_b {g : Nat → Int32} {n p lo hi m : Nat} (h1 : lo ≤ hi) (h2 : hi < 1000) (h : y_num g n p lo hi = some m) : lo ≤ m ∧ m ≤ hi := by
  unfold y_num at h
  split at h
  · cases h
    have := k_nu_ok (g := g) (n := n) (p := p) h1 h2
    exact ⟨this.1, this.2.1⟩
  · cases h
def y_LR (q : kL) (aK aO aT aH aW aS aL : Nat → Int32) (k : Nat) : Prop :=
  aK k = nI q.1 ∧ aO k = nI q.2.1 ∧ (q.1 = 0 → aT k = nI q.2.2.1 ∧ aS k = nI q.2.2.2.2.1 ∧ aW k = q.2.2.2.2.2.2) ∧ (q.1 = 1 → aS k = nI q.2.2.2.2.2.1 ∧ aW k = q.2.2.2.2.2.2) ∧ (q.1 = 2 → aT k = nI q.2.2.1 ∧ aS k = nI q.2.2.2.2.1) ∧ (q.1 = 3 → aL k = q.2.2.2.2.2.2) ∧ (q.1 = 4 → aL k = q.2.2.2.2.2.2) ∧ (q.1 = 6 → aT k = nI q.2.2.2.1 ∧ aH k = nI q.2.2.1 ∧ aS k = nI q.2.2.2.2.1 ∧ aL k = q.2.2.2.2.2.2)
def y_RQ (res : (Nat × kL) ⊕ Nat) (k : Nat) (v : Option Value) (kk oo tt hh ww ss ll : Nat → Int32) (pp bb : Nat) : Prop := match res with
  | .inl x => v = some (.int (nI 1)) ∧ pp = x.1 ∧ y_LR x.2 kk oo tt hh ww ss ll k
  | .inr e => v = some (.int (nI 0)) ∧ bb = e
def y_RP (aK aO aT aH aW aS aL : Nat → Int32) (k : Nat) (res : (Nat × kL) ⊕ Nat) (v : Option Value) (kk oo tt hh ww ss ll : Nat → Int32) (pp bb : Nat) : Prop :=
  (∀ j, ¬ j = k → kk j = aK j ∧ oo j = aO j ∧ tt j = aT j ∧ hh j = aH j ∧ ww j = aW j ∧ ss j = aS j ∧ ll j = aL j) ∧ y_RQ res k v kk oo tt hh ww ss ll pp bb
/-- the line's text behind 'law', from p on -/
def y_plaw (g : Nat → Int32) (n p : Nat) (q : kL) : (Nat × kL) ⊕ Nat :=
  (y_uq g n p).elim (.inr (k_sb g n p)) fun v =>
    if k_swb g n (y_wp g n p) 32 then .inl (y_wp g n (y_wp g n p), (5, v, q.2.2))
    else if k_swb g n (y_wp g n p) 33 then (y_uq g n (y_wp g n (y_wp g n p))).elim (.inr (k_sb g n (y_wp g n (y_wp g n p)))) fun w => (y_num g n (y_wp g n (y_wp g n (y_wp g n p))) 1 5).elim (.inr (k_sb g n (y_wp g n (y_wp g n (y_wp g n p))))) fun m => .inl (y_np g n (y_wp g n (y_wp g n (y_wp g n p))), (2, v, w, q.2.2.2.1, m, q.2.2.2.2.2))
    else if k_swb g n (y_wp g n p) 34 then (y_num g n (y_wp g n (y_wp g n p)) 0 99).elim (.inr (k_sb g n (y_wp g n (y_wp g n p)))) fun m => .inl (y_np g n (y_wp g n (y_wp g n p)), (3, v, q.2.2.1, q.2.2.2.1, q.2.2.2.2.1, q.2.2.2.2.2.1, nI m))
    else if k_swb g n (y_wp g n p) 35 then (y_num g n (y_wp g n (y_wp g n p)) 0 99).elim (.inr (k_sb g n (y_wp g n (y_wp g n p)))) fun m => .inl (y_np g n (y_wp g n (y_wp g n p)), (4, v, q.2.2.1, q.2.2.2.1, q.2.2.2.2.1, q.2.2.2.2.2.1, nI m))
    else .inr (k_sb g n (y_wp g n p))
def y_pgrow (g : Nat → Int32) (n p : Nat) (q : kL) : (Nat × kL) ⊕ Nat :=
  (y_uq g n p).elim (.inr (k_sb g n p)) fun v =>
    let p1 := y_wp g n p
    if k_swb g n p1 37 then
      (let p2 := y_wp g n p1
       (y_uq g n p2).elim (.inr (k_sb g n p2)) fun w =>
        let p3 := y_wp g n p2
        if k_swb g n p3 38 then
          (let p4 := y_wp g n p3
           (y_uq g n p4).elim (.inr (k_sb g n p4)) fun x =>
            let p5 := y_wp g n p4
            if k_swb g n p5 39 then
              (let p6 := y_wp g n p5
               (y_num g n p6 1 5).elim (.inr (k_sb g n p6)) fun m => (y_num g n (y_np g n p6) 1 60).elim (.inr (k_sb g n (y_np g n p6))) fun o => .inl (y_np g n (y_np g n p6), (6, v, x, w, m, q.2.2.2.2.2.1, nI o)))
            else .inr (k_sb g n p5))
        else .inr (k_sb g n p3))
    else .inr (k_sb g n p1)
/-- behind the number: near or on -/
def y_pw2 (g : Nat → Int32) (n p v : Nat) (q : kL) (x : Int32) : (Nat × kL) ⊕ Nat :=
  if k_swb g n p 39 then (y_uq g n (y_wp g n p)).elim (.inr (k_sb g n (y_wp g n p))) fun w => (y_num g n (y_wp g n (y_wp g n p)) 1 5).elim (.inr (k_sb g n (y_wp g n (y_wp g n p)))) fun m => .inl (y_np g n (y_wp g n (y_wp g n p)), (0, v, w, q.2.2.2.1, m, q.2.2.2.2.2.1, x))
  else if k_swb g n p 41 then (y_num g n (y_wp g n p) 0 9).elim (.inr (k_sb g n (y_wp g n p))) fun m => .inl (y_np g n (y_wp g n p), (1, v, q.2.2.1, q.2.2.2.1, q.2.2.2.2.1, m, x))
  else .inr (k_sb g n p)
/-- behind the use v, from p on -/
def y_pworth (g : Nat → Int32) (n p v : Nat) (q : kL) : (Nat × kL) ⊕ Nat :=
  if k_swb g n p 40 then (y_num g n (y_wp g n p) 0 99).elim (.inr (k_sb g n (y_wp g n p))) fun m => y_pw2 g n (y_np g n (y_wp g n p)) v q (-nI 1 * nI m)
  else if k_rl g n 97 122 (k_sb g n p) = 0 then (y_num g n (y_wp g n p) 0 99).elim (.inr (k_sb g n (y_wp g n p))) fun m => y_pw2 g n (y_np g n (y_wp g n p)) v q (nI 1 * nI m)
  else .inr (k_sb g n p)
def y_pline (g : Nat → Int32) (n p : Nat) (q : kL) : (Nat × kL) ⊕ Nat :=
  if k_swb g n p 26 then y_plaw g n (y_wp g n p) q else if k_swb g n p 36 then y_pgrow g n (y_wp g n p) q else (y_uq g n p).elim (.inr (k_sb g n p)) fun v => y_pworth g n (y_wp g n p) v q
theorem k_Ml {th : Int32} {u : Nat → Int32} {so : Nat → Int32} {fz : Nat → Bool} {fs : Nat} {gt : Nat} {yr : Nat} {aK : Nat → Int32} {aO : Nat → Int32} {aT : Nat → Int32} {aH : Nat → Int32} {aW : Nat → Int32} {aS : Nat → Int32} {aL : Nat → Int32} {ls : Nat} {pl : Nat → Int32} {ps : Nat} {tp : Nat → Int32} {td : Nat} {pt : Nat} {en : Nat} {bg : Nat} {fa : Int32} {fv : Nat → Int32} {mt : Nat → Bool} {nx : Nat → Int32} {pL : Nat → Nat} {sg : Nat → Int32} {bo : Nat → Int32} {wa : Nat → Int32} {gv : Nat → Int32} {bw : Int32} {of : Nat → Int32} {th' : Int32} {u' : Nat → Int32} {so' : Nat → Int32} {fz' : Nat → Bool} {fs' : Nat} {gt' : Nat} {yr' : Nat} {aK' : Nat → Int32} {aO' : Nat → Int32} {aT' : Nat → Int32} {aH' : Nat → Int32} {aW' : Nat → Int32} {aS' : Nat → Int32} {aL' : Nat → Int32} {ls' : Nat} {pl' : Nat → Int32} {ps' : Nat} {tp' : Nat → Int32} {td' : Nat} {pt' : Nat} {en' : Nat} {bg' : Nat} {fa' : Int32} {fv' : Nat → Int32} {mt' : Nat → Bool} {nx' : Nat → Int32} {pL' : Nat → Nat} {sg' : Nat → Int32} {bo' : Nat → Int32} {wa' : Nat → Int32} {gv' : Nat → Int32} {bw' : Int32} {of' : Nat → Int32} {o : mH} : (k_M th u so fz fs gt yr aK aO aT aH aW aS aL ls pl ps tp td pt en bg fa fv mt nx pL sg bo wa gv bw of o).length = (k_M th' u' so' fz' fs' gt' yr' aK' aO' aT' aH' aW' aS' aL' ls' pl' ps' tp' td' pt' en' bg' fa' fv' mt' nx' pL' sg' bo' wa' gv' bw' of' o).length := rfl
