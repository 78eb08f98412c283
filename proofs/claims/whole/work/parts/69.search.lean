/-! THE SEARCHES AGREE: the whole of both -/
def w_SK (q : Nat → kL) (m : Nat) (aK aO aT aW aS aL so : Nat → Int32) (fr : Int64) (U pL : Nat → Nat) (x b : Int32) : Bool × Int32 × (Nat → Nat) := y_SK (fun k => (q k).1) aK aO aT aW aS aL so m (w_b fr) (fun s => nI (U s)) pL (fb_ct (w_b fr) 60) x b
def w_SO (q : Nat → kL) (m : Nat) (so : Nat → Int32) (fr : Int64) (U : Nat → Nat) (S : kS) : Prop := ∀ (aK aO aT aH aW aS aL : Nat → Int32), w_LN q m aK aO aT aH aW aS aL → ∀ (pL : Nat → Nat) (b : Int32), w_R1 (w_b fr) U S (w_SK q m aK aO aT aW aS aL so fr U pL (-nI 1) b) ∧ ∀ a, a < m → w_R2 S a (w_SK q m aK aO aT aW aS aL so fr U pL (nI a) b)
section
variable {q : Nat → kL} {m : Nat} {so : Nat → Int32} {fr : Int64} {f G : Nat → Int64} {U : Nat → Nat}
theorem w_search (hfr : w_ok fr) (h5 : fb_ct (w_b fr) 60 ≤ 5) (hf : w_fu f U) (hU : ∀ s, s < 60 → U s < 5) (g : Nat → Nat) (B : Nat → Int64) (W : Nat → Int32) : w_SO q m so fr U (k_run q m so f G fr g B W).2 := by
  intro aK aO aT aH aW aS aL hL pL b
  have hm := hL.1
  have hway := fun c hc => w_way (G := G) hL hfr h5 hf hU g (c := c) hc
  have h0 := hway 0 (Nat.pow_pos (by omega))
  have hPP : w_P (w_b fr) (y_pp (w_b fr) pL 60) (fb_ct (w_b fr) 60) := fun i hi => y_pp_lt (w_b fr) pL 60 i hi
  have hU9 : ∀ c s, s < 60 → w_V (w_b fr) U (y_dg (fb_ct (w_b fr) 60) c) s < 1000 := fun c => w_V_lt (fun s hs => by have := hU s hs; omega) (fun i => by have := y_dg_b (fb_ct (w_b fr) 60) c i; omega)
  have hrun : (k_run q m so f G fr g B W).2 = w_it (fun c => w_lf q m so (w_F (k_lq fr g 60) (fb_ct (w_b fr) 60) (fb_ct (w_b fr) 60) (k_F0 f G fr) c)) (4 ^ fb_ct (w_b fr) 60) (false, nI 0, B, k_upto (fun _ => -1000000000) W 14) := by
    have := w_pf (so := so) hL (fb_ct (w_b fr) 60) (false, nI 0, B, k_upto (fun _ => -1000000000) W 14) h0.2.2 h0.2.1
    unfold k_run
    rw [k_lc_ct h5 60 (Nat.le_refl _)]
    rw [w_fold_it] at this
    exact congrArg Prod.snd this
  have hlf : ∀ c S, c < 4 ^ fb_ct (w_b fr) 60 → w_lf q m so (w_F (k_lq fr g 60) (fb_ct (w_b fr) 60) (fb_ct (w_b fr) 60) (k_F0 f G fr) c) S = k_jd (w_F (k_lq fr g 60) (fb_ct (w_b fr) 60) (fb_ct (w_b fr) 60) (k_F0 f G fr) c) (y_sc aK aO aT aW aS so m (w_b fr) (fun s => nI (U s)) (y_pp (w_b fr) pL 60) (fb_ct (w_b fr) 60) (y_dg (fb_ct (w_b fr) 60) c)) (k_bits (fun i => !(y_hb (q i).1 aO aT aS aL (y_us (w_b fr) (fun s => nI (U s)) (y_dg (fb_ct (w_b fr) 60) c)) i)) m) S := fun c S hc => by
    obtain ⟨hF, -, -⟩ := hway c hc
    unfold w_lf
    rw [w_sc hL hPP rfl, y_us_V, k_bits_cong hm (fun i hi => w_hb (hL.2 i hi).1.1 (hL.2 i hi).2 hF (hU9 c))]
    unfold w_W
    rw [k_sum_cong (fun i hi => w_lw (hL.2 i hi).1.1 (hL.2 i hi).2 hF (hU9 c))]
  have main : ∀ c, c ≤ 4 ^ fb_ct (w_b fr) 60 → w_R1 (w_b fr) U (w_it (fun c => w_lf q m so (w_F (k_lq fr g 60) (fb_ct (w_b fr) 60) (fb_ct (w_b fr) 60) (k_F0 f G fr) c)) c (false, nI 0, B, k_upto (fun _ => -1000000000) W 14)) (y_sk (fun k => (q k).1) aK aO aT aW aS aL so m (w_b fr) (fun s => nI (U s)) (y_pp (w_b fr) pL 60) (fb_ct (w_b fr) 60) (-nI 1) b c) ∧ ∀ a, a < m → w_R2 (w_it (fun c => w_lf q m so (w_F (k_lq fr g 60) (fb_ct (w_b fr) 60) (fb_ct (w_b fr) 60) (k_F0 f G fr) c)) c (false, nI 0, B, k_upto (fun _ => -1000000000) W 14)) a (y_sk (fun k => (q k).1) aK aO aT aW aS aL so m (w_b fr) (fun s => nI (U s)) (y_pp (w_b fr) pL 60) (fb_ct (w_b fr) 60) (nI a) b c) := by
    intro c
    induction c with
    | zero =>
      intro _
      refine ⟨⟨rfl, fun h => absurd (show false = true from h) (by decide), fun i => Nat.zero_lt_succ _⟩, fun a ha => ⟨fun _ => ⟨rfl, show k_upto (fun _ => -1000000000) W 14 a = -1000000000 from k_upto_lt _ W (show a < 14 by omega)⟩, fun h => absurd (show false = true from h) (by decide)⟩⟩
    | succ c ih =>
      intro hc
      obtain ⟨i1, i2⟩ := ih (by omega)
      obtain ⟨hF, -, -⟩ := hway c (by omega)
      rw [w_it, hlf c _ (by omega)]
      refine ⟨?_, fun a ha => ?_⟩
      · rw [y_sk_s]
        exact w_R1_s hm hF (fun i => (y_dg_b (fb_ct (w_b fr) 60) c i).2) i1
      · rw [y_sk_s]
        exact w_R2_s hm ha (w_sc_b hL hPP rfl) (i2 a ha)
  rw [hrun]
  exact main _ (Nat.le_refl _)
theorem w_SO_cost {S : kS} (h : w_SO q m so fr U S) {aK aO aT aH aW aS aL : Nat → Int32} (hL : w_LN q m aK aO aT aH aW aS aL) {a : Nat} (ha : a < m) (hS : S.1 = true) (pL : Nat → Nat) (b : Int32) : (w_SK q m aK aO aT aW aS aL so fr U pL (nI a) b).2.1 = if S.2.1 < S.2.2.2 a then S.2.2.2 a else S.2.1 := by
  obtain ⟨h1, h2⟩ := (h _ _ _ _ _ _ _ hL pL b).2 a ha
  cases hy : (w_SK q m aK aO aT aW aS aL so fr U pL (nI a) b).1 with
  | false => rw [hS] at h1; exact absurd (h1 hy).1 (by decide)
  | true => rw [h2 hy, if_pos hS]
end
