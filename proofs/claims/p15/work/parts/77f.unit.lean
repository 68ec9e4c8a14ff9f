/-! ONE INSTRUCTION on both sides: units -/
section ST
variable {σ τ σ0 τ0 τ1 : zS} {c f m g : Int32}
theorem slot_cs (f : Int32) : zSlot f = 0 ∨ zSlot f = 1 ∨ zSlot f = 2 ∨ zSlot f = -1 := by
  unfold zSlot
  split
  · exact .inl rfl
  · split
    · exact .inr (.inl rfl)
    · split
      · exact .inr (.inr (.inl rfl))
      · exact .inr (.inr (.inr rfl))
theorem bz_ok (h : pR9 σ τ) (hsd : 0 ≤ (σ.1 7 7).toInt ∧ (σ.1 7 7).toInt < 2000000000) {s : Int32} (hs : ¬ s = -1) : zBz (σ.2.2.1 6) s (σ.1 7 7 + 1) ↔ yBz τ s := by
  show (¬ s = -1 ∧ ¬ σ.2.2.1 6 s.toNatClampNeg < σ.1 7 7 + 1) ↔ τ.1 25 8 < τ.2.2.1 31 s.toNatClampNeg
  rw [h.un, ← h.sd, Int32.lt_iff_toInt_lt, Int32.lt_iff_toInt_lt, Int32.toInt_add, show (1 : Int32).toInt = 1 from rfl, bm32 (by omega) (by omega)]
  constructor
  · intro q
    have := q.2
    omega
  · intro q
    exact ⟨hs, by omega⟩
theorem jb_ok (h : pR9 σ τ) (hs : yS τ = 0) (hc : pO σ = c) (hm : pA σ = m) (hn : σ.1 7 9 = σ.1 7 5 + 1) (hp : 0 ≤ (σ.1 7 5).toInt ∧ (σ.1 7 5).toInt ≤ 199) (hsd : 0 ≤ (σ.1 7 7).toInt ∧ (σ.1 7 7).toInt < 2000000000) : exR (if zSlot f = -1 then none else @cJif σ (zBz (σ.2.2.1 6) (zSlot f) (σ.1 7 7 + 1) ↔ pO σ = 34) (Classical.propDecidable _)) σ τ (yJb τ c f m) := by
  have w0 := pW_S (pW_0 h hs)
  unfold yJb
  rw [hc]
  by_cases k : zSlot f = -1
  · rw [if_pos k, if_pos (show ¬ yS τ = 0 ∨ zSlot f < 0 from .inr (by rw [k]; decide))]
    exact exR_no h rfl
  · have k0 : ¬ zSlot f < 0 := by
      rcases slot_cs f with e | e | e | e
      · rw [e]; decide
      · rw [e]; decide
      · rw [e]; decide
      · exact absurd e k
    have hb := bz_ok h hsd k
    rw [if_neg k, if_neg (show ¬ (¬ yS τ = 0 ∨ zSlot f < 0) from fun z => z.elim (fun z => z hs) k0)]
    by_cases t : yBz (zI τ 25 4 0) (zSlot f) ↔ c = 34
    · rw [if_pos t]
      exact jif_t ⟨fun z => t.mp (hb.mp z), fun z => hb.mpr (t.mpr z)⟩ w0 (by decide) hn hp hm
    · rw [if_neg t]
      exact jif_f (fun z => t ⟨fun y => z.mp (hb.mpr y), fun y => hb.mp (z.mpr y)⟩) w0
theorem use_ok {x : Option zS} {υ : zS} {s : Int32} (hx : exR x σ τ υ) (hs : s = 0 ∨ s = 1 ∨ s = 2) : exR (x.map (fun ρ => zA ρ 6 (upd (ρ.2.2.1 6) s.toNatClampNeg (σ.1 7 7 + 1 + nBusy s.toNatClampNeg)))) σ τ (if ¬ yS υ = 0 then υ else zA υ 31 (upd (υ.2.2.1 31) s.toNatClampNeg (υ.1 25 8 + 1 + (if s = 0 then 4 else if s = 1 then 8 else 6)))) := by
  rcases hx with ⟨a, b, c, d⟩ | ⟨σ2, a, w⟩
  · rw [if_pos b, a]
    exact .inl ⟨rfl, b, c, d⟩
  · rw [if_neg (fun z => z w.2.2.2.2.2), a]
    have e1 : σ.1 7 7 = υ.1 25 8 := by rw [← w.2.2.2.1]; exact w.1.sd
    have e2 : nBusy s.toNatClampNeg = (if s = 0 then 4 else if s = 1 then 8 else 6) := by
      rcases hs with rfl | rfl | rfl <;> decide
    have e3 : σ2.2.2.1 6 = υ.2.2.1 31 := w.1.un
    show exR (some (zA σ2 6 (upd (σ2.2.2.1 6) s.toNatClampNeg (σ.1 7 7 + 1 + nBusy s.toNatClampNeg)))) σ τ _
    rw [e1, e2, e3]
    exact exR_ok rfl (pW_un w _)
theorem cTo_ok {b m : Int32} : cTo b m = yTo' b m ∧ 0 ≤ (yTo' b m).toInt ∧ (yTo' b m).toInt ≤ 6 := by
  unfold cTo yTo'
  by_cases z : m = 0
  · rw [if_pos z, if_pos z]
    decide
  · rw [if_neg z, if_neg z]
    generalize b + m = t
    by_cases a : t < 0
    · have a' := Int32.lt_iff_toInt_lt.mp a
      rw [show (0 : Int32).toInt = 0 from rfl] at a'
      have q : t < 6 := by
        rw [Int32.lt_iff_toInt_lt, show (6 : Int32).toInt = 6 from rfl]
        omega
      rw [if_pos a, if_pos q, if_neg (by
        rw [Int32.lt_iff_toInt_lt, show (0 : Int32).toInt = 0 from rfl]
        omega)]
      decide
    · rw [if_neg a]
      rw [Int32.lt_iff_toInt_lt, show (0 : Int32).toInt = 0 from rfl] at a
      by_cases q : 6 < t
      · have q' := Int32.lt_iff_toInt_lt.mp q
        rw [show (6 : Int32).toInt = 6 from rfl] at q'
        rw [if_pos q, if_neg (show ¬ t < 6 by
          rw [Int32.lt_iff_toInt_lt, show (6 : Int32).toInt = 6 from rfl]
          omega)]
        decide
      · rw [if_neg q]
        rw [Int32.lt_iff_toInt_lt, show (6 : Int32).toInt = 6 from rfl] at q
        by_cases p : t < 6
        · rw [if_pos p]
          by_cases k : 0 < t
          · rw [if_pos k]
            exact ⟨rfl, by omega, by omega⟩
          · rw [if_neg k]
            rw [Int32.lt_iff_toInt_lt, show (0 : Int32).toInt = 0 from rfl] at k
            exact ⟨Int32.toInt_inj.mp (by rw [show (0 : Int32).toInt = 0 from rfl]; omega), by omega, by omega⟩
        · rw [if_neg p, if_pos (by decide)]
          rw [Int32.lt_iff_toInt_lt, show (6 : Int32).toInt = 6 from rfl] at p
          exact ⟨Int32.toInt_inj.mp (by rw [show (6 : Int32).toInt = 6 from rfl]; omega), by omega, by omega⟩
theorem cp1_w {M T : Nat → Int32} {a b : Int32} {n N K : Nat} (hM : ∀ j, j < K → wOk (M j)) (hT : ∀ j, j < N → wOk (T j)) (ha : 0 ≤ a.toInt) (hb : 0 ≤ b.toInt) (hn : n ≤ 1000) (h1 : a.toInt + n < 2147483648) (h2 : b.toInt + n ≤ N) (hN : N ≤ 1000) : ∀ j, j < K → wOk (cp1 M T a b n j) := by
  intro j hj
  rw [cp1_get ha hb n hn h1 (by omega)]
  split
  · exact hT _ (by omega)
  · exact hM j hj
theorem nd2 {p q : Prop} [Decidable p] [Decidable q] (w : pW σ τ σ τ1) (hp : p) (hq : q) : ndr τ1 p q = zI (zI τ1 25 4 0) 25 4 0 := by
  unfold ndr
  have e : zNd τ1 p = zI τ1 25 4 0 := zNd_0 (fun z => z.elim (fun z => z w.2.2.2.2.2) (fun z => z hp))
  rw [e]
  exact zNd_0 (fun z => z.elim (fun z => z rfl) (fun z => z hq))
theorem nd_no {x : Option zS} {p q : Prop} [Decidable p] [Decidable q] (w : pW σ τ σ τ1) (hpq : ¬ (p ∧ q)) (hx : x = none) : exR x σ τ (ndr τ1 p q) := by
  refine .inl ⟨hx, fun z => hpq ((ndr_s.mp z).2), pR9_S (pR9_S w.1 _) _, qFr_I (qFr_I w.2.2.1 (by decide)) (by decide)⟩
theorem rng {m : Int32} {k : Int32} {n : Nat} (hk : k.toInt = n) (hn : n ≤ 100) (h1 : 1 ≤ n) (h : yRw m k) : 0 ≤ m.toInt ∧ m.toInt + n ≤ 200 := by
  have p1 := qPlc_int.mp h.1
  have p2 := qPlc_int.mp h.2
  rw [Int32.toInt_sub, Int32.toInt_add, hk, show (1 : Int32).toInt = 1 from rfl, bm32 (x := m.toInt + n) (by omega) (by omega), bm32 (by omega) (by omega)] at p2
  omega
/-- the tape -/
theorem lt6 {x : Int32} (h : x < 6) : x.toInt < 6 := Int32.lt_iff_toInt_lt.mp h
theorem b10i {b : Int32} (h : 0 ≤ b.toInt ∧ b.toInt ≤ 6) : (10 * b).toInt = 10 * b.toInt := by
  rw [Int32.toInt_mul, show (10 : Int32).toInt = 10 from rfl, bm32 (by omega) (by omega)]
theorem bk1 {b : Int32} (h : 0 ≤ b.toInt ∧ b.toInt ≤ 6) (h6 : b < 6) : 0 ≤ (b + 1).toInt ∧ (b + 1).toInt ≤ 6 := by
  have := lt6 h6
  rw [Int32.toInt_add, show (1 : Int32).toInt = 1 from rfl, bm32 (by omega) (by omega)]
  omega
theorem rd0_ok (w : pW σ τ σ τ1) : exR (cPas σ 1 m) σ τ (yRds τ1 0 m) := by
  have h := w.1
  have hb := h.bb
  have hbk : uB σ = τ1.1 25 12 := h.bk
  have ar := arp_rw (a := m) (k := 10) (by decide) (by decide)
  unfold cPas yRds
  by_cases q : rdN τ1 0 ∧ yRw m (rdK 0)
  · have b6 : τ1.1 25 12 < 6 := by
      rcases q.1 with z | z
      · exact z.2
      · exact absurd z.1 (by decide)
    have hr : yRw m 10 := q.2
    rw [if_neg (show ¬ (¬ yS τ1 = 0 ∨ ¬ rdN τ1 0 ∨ ¬ yRw m (rdK 0)) from fun z => z.elim (fun z => z w.2.2.2.2.2) (fun z => z.elim (fun z => z q.1) (fun z => z q.2))), hbk, if_pos ⟨b6, ar.mpr hr⟩, if_pos (by decide), nd2 w q.1 q.2]
    have rg := rng (n := 10) rfl (by decide) (by decide) hr
    have b60 := lt6 b6
    have e10 := b10i hb
    have e : va_cpy (σ.2.2.1 3) (σ.2.2.1 1) (τ1.1 25 12 * 10).toNatClampNeg m.toNatClampNeg 10 = cp1 (qM τ1) (τ1.2.2.1 28) m (10 * τ1.1 25 12) 10 := by
      rw [Int32.mul_comm, h.tp, h.M]
      exact cp1_ok rg.1 (by omega) (by decide) (by omega) (by omega)
    rw [e]
    exact exR_ok rfl (pW_bk (pW_M (pW_S (pW_S w)) (cp1_w h.wM h.wT rg.1 (by omega) (by decide) (by omega) (by omega) (by decide))) (bk1 hb b6))
  · rw [if_pos (show ¬ yS τ1 = 0 ∨ ¬ rdN τ1 0 ∨ ¬ yRw m (rdK 0) from .inr (Decidable.not_and_iff_not_or_not.mp q))]
    refine nd_no w q ?_
    rw [hbk, if_neg (fun z => q ⟨.inl ⟨rfl, z.1⟩, ar.mp z.2⟩)]
theorem wr0_ok (w : pW σ τ σ τ1) : exR (cPas σ 0 m) σ τ (yWrs τ1 0 m) := by
  have h := w.1
  have hb := h.bb
  have hbk : uB σ = τ1.1 25 12 := h.bk
  have ar := arp_rw (a := m) (k := 10) (by decide) (by decide)
  unfold cPas yWrs
  by_cases q : wrN τ1 0 ∧ yRw m (wrK 0)
  · have b6 : τ1.1 25 12 < 6 := by
      rcases q.1 with z | z
      · exact z.2
      · exact absurd z (by decide)
    have hr : yRw m 10 := q.2
    rw [if_neg (show ¬ (¬ yS τ1 = 0 ∨ ¬ wrN τ1 0 ∨ ¬ yRw m (wrK 0)) from fun z => z.elim (fun z => z w.2.2.2.2.2) (fun z => z.elim (fun z => z q.1) (fun z => z q.2))), hbk, if_pos ⟨b6, ar.mpr hr⟩, if_neg (by decide), nd2 w q.1 q.2]
    have rg := rng (n := 10) rfl (by decide) (by decide) hr
    have b60 := lt6 b6
    have e10 := b10i hb
    have e : va_cpy (σ.2.2.1 1) (σ.2.2.1 3) m.toNatClampNeg (τ1.1 25 12 * 10).toNatClampNeg 10 = cp1 (τ1.2.2.1 28) (qM τ1) (10 * τ1.1 25 12) m 10 := by
      rw [Int32.mul_comm, h.tp, h.M]
      exact cp1_ok (by omega) rg.1 (by decide) (by omega) (by omega)
    rw [e]
    exact exR_ok rfl (pW_bk (pW_tp (pW_S (pW_S w)) (cp1_w h.wT h.wM (by omega) rg.1 (by decide) (by omega) (by omega) (by decide))) (bk1 hb b6))
  · rw [if_pos (show ¬ yS τ1 = 0 ∨ ¬ wrN τ1 0 ∨ ¬ yRw m (wrK 0) from .inr (Decidable.not_and_iff_not_or_not.mp q))]
    refine nd_no w q ?_
    rw [hbk, if_neg (fun z => q ⟨.inl ⟨rfl, z.1⟩, ar.mp z.2⟩)]
/-- cards -/
theorem rd1_ok (w : pW σ τ σ τ1) : exR (cRd σ m) σ τ (yRds τ1 1 m) := by
  have h := w.1
  have ar := arp_rw (a := m) (k := 4) (by decide) (by decide)
  have hcc : σ.1 2 7 = τ1.1 25 13 := h.cr.1
  have hc0 := h.cr.2.1
  have ho := h.cr.2.2.1
  unfold cRd yRds
  by_cases q : rdN τ1 1 ∧ yRw m (rdK 1)
  · have hc : ¬ σ.1 2 7 = 0 := by
      rcases q.1 with z | z
      · exact absurd z.1 (by decide)
      · have := Int32.lt_iff_toInt_lt.mp z.2
        rw [← hcc] at this
        intro e
        rw [e] at this
        exact absurd this (by decide)
    have hr : yRw m 4 := q.2
    obtain ⟨d1, d2, d3⟩ := crd_rd h.cr hc
    rw [if_neg (show ¬ (¬ yS τ1 = 0 ∨ ¬ rdN τ1 1 ∨ ¬ yRw m (rdK 1)) from fun z => z.elim (fun z => z w.2.2.2.2.2) (fun z => z.elim (fun z => z q.1) (fun z => z q.2))), if_pos ⟨hc, ar.mpr hr⟩, nd2 w q.1 q.2]
    have rg := rng (n := 4) rfl (by decide) (by decide) hr
    have e4 : (σ.1 2 6 * 4).toNatClampNeg = 4 * (σ.1 2 6).toInt.toNat := by
      rw [tnN, Int32.toInt_mul, show (4 : Int32).toInt = 4 from rfl, bm32 (by omega) (by omega)]
      omega
    have e : va_cpy (σ.2.2.1 4) (σ.2.2.1 1) (σ.1 2 6 * 4).toNatClampNeg m.toNatClampNeg 4 = cp2 (qM τ1) (τ1.2.2.1 29) m 4 := by
      funext j
      rw [cp2_get rg.1 4 (by decide) (by omega), e4, h.M]
      unfold va_cpy
      rw [tnN]
      by_cases k : m.toInt.toNat ≤ j ∧ j < m.toInt.toNat + 4
      · rw [if_pos k, if_pos k]
        exact d3 _ (by omega)
      · rw [if_neg k, if_neg k]
    rw [e]
    have hw : ∀ j, j < 200 → wOk (cp2 (qM τ1) (τ1.2.2.1 29) m 4 j) := by
      intro j hj
      rw [cp2_get rg.1 4 (by decide) (by omega)]
      split
      · refine h.wC _ ?_
        rw [← hcc]
        omega
      · exact h.wM j hj
    have e1 : (τ1.1 25 13 - 1).toInt = (τ1.1 25 13).toInt - 1 := by
      rw [← hcc, Int32.toInt_sub, show (1 : Int32).toInt = 1 from rfl, bm32 (by omega) (by omega)]
    have hC : ∀ j, j < 4 * (τ1.1 25 13 - 1).toInt.toNat → wOk (sh4 (τ1.2.2.1 29) (4 * (τ1.1 25 13 - 1)).toNatClampNeg j) := by
      intro j hj
      rw [hcc] at d2 hc0
      have e5 : (4 * (τ1.1 25 13 - 1)).toNatClampNeg = 4 * ((τ1.1 25 13).toInt.toNat - 1) := by
        rw [tnN, Int32.toInt_mul, e1, show (4 : Int32).toInt = 4 from rfl, bm32 (by omega) (by omega)]
        omega
      rw [e1] at hj
      rw [e5, sh4_get _ (by omega), if_pos (by omega)]
      exact h.wC _ (by omega)
    exact exR_ok rfl (pW_rd (pW_S (pW_S w)) hw d1 hC)
  · rw [if_pos (show ¬ yS τ1 = 0 ∨ ¬ rdN τ1 1 ∨ ¬ yRw m (rdK 1) from .inr (Decidable.not_and_iff_not_or_not.mp q))]
    refine nd_no w q ?_
    rw [if_neg (fun z => q ⟨.inr ⟨rfl, by
      rw [← hcc, Int32.lt_iff_toInt_lt, show (0 : Int32).toInt = 0 from rfl]
      have : ¬ (σ.1 2 7).toInt = 0 := fun e => z.1 (Int32.toInt_inj.mp e)
      omega⟩, ar.mp z.2⟩)]
/-- the printer -/
theorem pr_ok (w : pW σ τ σ τ1) (hl : (σ.1 2 8).toInt < 2000000000) : exR (cPr σ m) σ τ (yWrs τ1 2 m) := by
  have h := w.1
  have ar := arp_rw (a := m) (k := 6) (by decide) (by decide)
  unfold cPr yWrs
  by_cases q : wrN τ1 2 ∧ yRw m (wrK 2)
  · have hr : yRw m 6 := q.2
    rw [if_neg (show ¬ (¬ yS τ1 = 0 ∨ ¬ wrN τ1 2 ∨ ¬ yRw m (wrK 2)) from fun z => z.elim (fun z => z w.2.2.2.2.2) (fun z => z.elim (fun z => z q.1) (fun z => z q.2))), if_pos (ar.mpr hr), nd2 w q.1 q.2]
    have rg := rng (n := 6) rfl (by decide) (by decide) hr
    have hL := lin_pr (M := qM τ1) (m := m) h.li ⟨rg.1, by omega⟩ hl
    have hM : σ.2.2.1 1 = qM τ1 := h.M
    rw [hM]
    exact exR_ok rfl (pW_pr (pW_S (pW_S w)) hL rfl)
  · rw [if_pos (show ¬ yS τ1 = 0 ∨ ¬ wrN τ1 2 ∨ ¬ yRw m (wrK 2) from .inr (Decidable.not_and_iff_not_or_not.mp q))]
    refine nd_no w q ?_
    rw [if_neg (fun z => q ⟨.inr rfl, ar.mp z⟩)]
theorem unit_ok (h : pR9 σ τ) (hs : yS τ = 0) (hm : pA σ = m) (hl : (σ.1 2 8).toInt < 2000000000) (c0 : c = 35 ∨ c = 36 ∨ c = 37) : exR (cUse σ c (zSlot f) m (σ.1 7 7 + 1)) σ τ (qUnt τ c f m) := by
  have w0 := pW_S (pW_0 h hs)
  unfold cUse qUnt
  by_cases k : zSlot f = -1
  · rw [if_pos k, if_pos (show ¬ yS τ = 0 ∨ zSlot f < 0 from .inr (by rw [k]; decide))]
    exact exR_no h rfl
  · have k3 : zSlot f = 0 ∨ zSlot f = 1 ∨ zSlot f = 2 := by
      rcases slot_cs f with e | e | e | e
      · exact .inl e
      · exact .inr (.inl e)
      · exact .inr (.inr e)
      · exact absurd e k
    have k0 : ¬ zSlot f < 0 := by
      rcases k3 with e | e | e
      · rw [e]; decide
      · rw [e]; decide
      · rw [e]; decide
    rw [if_neg k, if_neg (show ¬ (¬ yS τ = 0 ∨ zSlot f < 0) from fun z => z.elim (fun z => z hs) k0)]
    refine use_ok ?_ k3
    generalize zSlot f = s at k3
    unfold cAct
    rcases c0 with rfl | rfl | rfl
    · rw [if_pos rfl, if_pos rfl]
      unfold cCtl yCtl
      rcases k3 with rfl | rfl | rfl
      · rw [if_pos rfl, if_neg (show ¬ (¬ yS (zI τ 25 4 0) = 0 ∨ ¬ ((0 : Int32) = 0 ∨ (0 : Int32) = 2)) from fun z => z.elim (fun z => z rfl) (fun z => z (.inl rfl))), if_neg (by decide), show uB σ = τ.1 25 12 from h.bk, cTo_ok.1]
        exact exR_ok rfl (pW_bk (pW_S w0) cTo_ok.2)
      · rw [if_neg (by decide), if_pos rfl, if_pos (show ¬ yS (zI τ 25 4 0) = 0 ∨ ¬ ((1 : Int32) = 0 ∨ (1 : Int32) = 2) from .inr (by decide))]
        exact exR_w w0 rfl
      · rw [if_neg (by decide), if_neg (by decide), if_neg (show ¬ (¬ yS (zI τ 25 4 0) = 0 ∨ ¬ ((2 : Int32) = 0 ∨ (2 : Int32) = 2)) from fun z => z.elim (fun z => z rfl) (fun z => z (.inr rfl))), if_pos rfl]
        exact exR_ok rfl (pW_S w0)
    · rw [if_neg (show ¬ (36 : Int32) = 35 by decide), if_neg (show ¬ (36 : Int32) = 35 by decide), if_pos (show (36 : Int32) = 36 from rfl), if_pos (show (36 : Int32) = 36 from rfl), if_pos (show (36 : Int32) = 36 from rfl), if_pos (show (36 : Int32) = 36 from rfl)]
      rcases k3 with rfl | rfl | rfl
      · rw [if_pos rfl]
        exact rd0_ok w0
      · rw [if_neg (by decide), if_pos rfl]
        exact rd1_ok w0
      · rw [if_neg (by decide), if_neg (by decide)]
        unfold yRds
        rw [if_pos (show ¬ yS (zI τ 25 4 0) = 0 ∨ ¬ rdN (zI τ 25 4 0) 2 ∨ ¬ yRw m (rdK 2) from .inr (.inl (fun z => z.elim (fun z => absurd z.1 (by decide)) (fun z => absurd z.1 (by decide)))))]
        exact nd_no w0 (fun z => z.1.elim (fun z => absurd z.1 (by decide)) (fun z => absurd z.1 (by decide))) rfl
    · rw [if_neg (show ¬ (37 : Int32) = 35 by decide), if_neg (show ¬ (37 : Int32) = 35 by decide), if_neg (show ¬ (37 : Int32) = 36 by decide), if_neg (show ¬ (37 : Int32) = 36 by decide), if_neg (show ¬ (37 : Int32) = 36 by decide), if_neg (show ¬ (37 : Int32) = 36 by decide), if_pos (show (37 : Int32) = 37 from rfl)]
      rcases k3 with rfl | rfl | rfl
      · rw [if_pos rfl]
        exact wr0_ok w0
      · rw [if_neg (by decide), if_pos rfl]
        unfold yWrs
        rw [if_pos (show ¬ yS (zI τ 25 4 0) = 0 ∨ ¬ wrN (zI τ 25 4 0) 1 ∨ ¬ yRw m (wrK 1) from .inr (.inl (fun z => z.elim (fun z => absurd z.1 (by decide)) (fun z => absurd z (by decide)))))]
        exact nd_no w0 (fun z => z.1.elim (fun z => absurd z.1 (by decide)) (fun z => absurd z (by decide))) rfl
      · rw [if_neg (by decide), if_neg (by decide)]
        exact pr_ok w0 hl
end ST
