/-! ONE INSTRUCTION on both sides: conversions, shifts, moves -/
section ST
variable {σ τ σ0 τ0 : zS} {c f m g : Int32}
theorem f_lt {f k : Int32} {n : Nat} (hk : k.toInt = n) (f0 : ¬ f < 0) (h : f < k) : ∃ j, j < n ∧ f = Int32.ofNat j := by
  rw [Int32.lt_iff_toInt_lt] at f0 h
  rw [show (0 : Int32).toInt = 0 from rfl] at f0
  rw [hk] at h
  refine ⟨f.toInt.toNat, by omega, ?_⟩
  have := of_tn (x := f) (by omega)
  exact this.symm
theorem conv_ok (h : pR9 σ τ) (hs : yS τ = 0) (hf : pF σ = f) (f0 : ¬ f < 0) : exR (cConv σ) σ τ (ySpc τ f) := by
  have w0 := pW_S (pW_0 h hs)
  have hR : pR σ = qR τ := h.R
  unfold cConv ySpc
  rw [hf]
  by_cases f3 : f < 3
  · rw [if_neg (show ¬ (¬ yS τ = 0 ∨ ¬ f < 3) from fun z => z.elim (fun z => z hs) (fun z => z f3))]
    obtain ⟨j, hj, rfl⟩ := f_lt (n := 3) rfl f0 f3
    have : j = 0 ∨ j = 1 ∨ j = 2 := by omega
    rcases this with rfl | rfl | rfl
    · obtain ⟨n1, n2⟩ := num_r h.wR
      rw [if_pos (show Int32.ofNat 0 = 0 from rfl), if_pos (show Int32.ofNat 0 = 0 from rfl), hR, n2, sm_ok]
      exact exR_ok rfl (pW_R w0 n1)
    · obtain ⟨n1, n2⟩ := chr_r h.wR
      rw [if_neg (show ¬ Int32.ofNat 1 = 0 by decide), if_neg (show ¬ Int32.ofNat 1 = 0 by decide), if_pos (show Int32.ofNat 1 = 1 from rfl), if_pos (show Int32.ofNat 1 = 1 from rfl), hR, n2, sb_ok]
      exact exR_ok rfl (pW_R w0 n1)
    · rw [if_neg (show ¬ Int32.ofNat 2 = 0 by decide), if_neg (show ¬ Int32.ofNat 2 = 0 by decide), if_neg (show ¬ Int32.ofNat 2 = 1 by decide), if_neg (show ¬ Int32.ofNat 2 = 1 by decide), if_pos (show Int32.ofNat 2 = 2 from rfl)]
      exact exR_ok rfl (pW_st w0 (by decide))
  · rw [if_pos (show ¬ yS τ = 0 ∨ ¬ f < 3 from .inr f3)]
    refine exR_no h ?_
    rw [if_neg (fun e => f3 (by rw [e]; decide)), if_neg (fun e => f3 (by rw [e]; decide)), if_neg (fun e => f3 (by rw [e]; decide))]
theorem lt56 {f : Int32} : 5 < f ↔ ¬ f < 6 := by
  rw [Int32.lt_iff_toInt_lt, Int32.lt_iff_toInt_lt, show (5 : Int32).toInt = 5 from rfl, show (6 : Int32).toInt = 6 from rfl]
  omega
theorem shift_ok (h : pR9 σ τ) (hs : yS τ = 0) (hf : pF σ = f) (hm : pA σ = m) (f0 : ¬ f < 0) : exR (cShf σ) σ τ (yShi τ f m) := by
  have w0 := pW_S (pW_0 h hs)
  have hR : pR σ = qR τ := h.R
  unfold cShf yShi
  rw [hf, hm]
  by_cases q : f < 6 ∧ ¬ m < 0
  · rw [if_neg (show ¬ (m < 0 ∨ 5 < f) from fun z => z.elim q.2 (fun z => lt56.mp z q.1)), if_neg (show ¬ (¬ yS τ = 0 ∨ ¬ (f < 6 ∧ ¬ m < 0)) from fun z => z.elim (fun z => z hs) (fun z => z q)), hR, shf_ok (h.wR 0 (by decide)).1 (h.wR 7 (by decide)).1 f0 q.1 q.2]
    have hm0 : 0 ≤ m.toInt := by
      have := q.2
      rw [Int32.lt_iff_toInt_lt, show (0 : Int32).toInt = 0 from rfl] at this
      omega
    exact exR_ok rfl (pW_R w0 (shf_r h.wR f0 hm0))
  · rw [if_pos (show ¬ yS τ = 0 ∨ ¬ (f < 6 ∧ ¬ m < 0) from .inr q)]
    refine exR_no h ?_
    rw [if_pos]
    by_cases a : m < 0
    · exact .inl a
    · exact .inr (lt56.mpr (fun z => q ⟨z, a⟩))
theorem mMv_w {M : Nat → Int32} {a b : Int32} (hM : ∀ j, j < 200 → wOk (M j)) : ∀ k : Nat, 0 ≤ a.toInt → a.toInt + k ≤ 200 → ∀ j, j < 200 → wOk (mMv M a b k j)
  | 0, _, _ => hM
  | k + 1, h0, h1 => by
    have ih := mMv_w (b := b) hM k h0 (by omega)
    have e : (a + Int32.ofNat k).toNatClampNeg < 200 := by
      rw [adN h0 (by omega) (by omega)]
      omega
    exact upd_w ih _ (ih _ e)
theorem move_ok (h : pR9 σ τ) (hs : yS τ = 0) (hf : pF σ = f) (hm : pA σ = m) (f0 : ¬ f < 0) (f1 : ¬ 63 < f) : exR (cMov σ) σ τ (yMov τ f m) := by
  have w0 := pW_0 h hs
  have hR : pR σ = qR τ := h.R
  have hM : pM σ = qM τ := h.M
  unfold cMov yMov
  rw [hf, hm, hR, hM]
  by_cases z : f = 0
  · rw [if_pos z, if_pos z]
    exact exR_ok rfl w0
  · rw [if_neg z, if_neg z]
    have g1 : 1 ≤ f.toInt ∧ f.toInt ≤ 63 := by
      have : ¬ f.toInt = 0 := fun e => z (Int32.toInt_inj.mp e)
      rw [Int32.lt_iff_toInt_lt] at f0 f1
      rw [show (0 : Int32).toInt = 0 from rfl] at f0
      rw [show (63 : Int32).toInt = 63 from rfl] at f1
      omega
    have a1 := arp_rw (a := m) g1.1 g1.2
    have a2 := arp_rw (a := zVal (qR τ 1)) g1.1 g1.2
    have t0 : zNd τ True = zI τ 25 4 0 := zNd_0 (fun q => q.elim (fun q => q hs) (fun q => q trivial))
    have t1 : zNd (zI τ 25 4 0) True = zI (zI τ 25 4 0) 25 4 0 := zNd_0 (fun q => q.elim (fun q => q rfl) (fun q => q trivial))
    by_cases p : yRw m f
    · rw [if_neg (show ¬ ¬ yRw m f from fun z => z p), t0, t1]
      by_cases q : yRw (zVal (qR τ 1)) f
      · rw [if_neg (show ¬ ¬ yRw (zVal (qR τ 1)) f from fun z => z q), if_pos ⟨a1.mpr p, a2.mpr q⟩]
        have p1 := qPlc_int.mp p.1
        have p2 := qPlc_int.mp p.2
        rw [Int32.toInt_sub, Int32.toInt_add, show (1 : Int32).toInt = 1 from rfl, bm32 (x := m.toInt + f.toInt) (by omega) (by omega), bm32 (by omega) (by omega)] at p2
        have ef := tn_i (x := f) (by omega)
        exact exR_ok rfl (add_ok (pW_M (pW_S (pW_S w0)) (mMv_w h.wM f.toNatClampNeg p1.1 (by omega))) (by decide))
      · rw [if_pos q, if_neg (fun z => q (a2.mp z.2))]
        exact exR_w (pW_S w0) rfl
    · rw [if_pos p, if_neg (fun z => p (a1.mp z.1))]
      exact exR_no h rfl
end ST
