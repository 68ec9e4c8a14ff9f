/-! THE RELATION OF BOTH ASSEMBLERS within a text -/
def aRf (p0 c0 l0 w0 cur : Int32) (N : Nat → Int64) (V Wd Ls D G P Ln : Nat → Int32) (p1 c1 l1 w1 : Int32) (N' : Nat → Int64) (I S Hs X L' Bh Bk K H R O : Nat → Int32) (fi : Nat) : Prop := (p0 = p1) ∧ (vOk p0) ∧ (c0 = c1) ∧ (nmR c0 N N') ∧ (vlR c0.toNatClampNeg V Hs X) ∧ (vlR 10 D Bh Bk) ∧ (l0 = l1) ∧ (0 ≤ l0.toInt ∧ l0.toInt ≤ 20) ∧ (∀ i, i < l0.toNatClampNeg → Ls i = L' i ∧ wOk (Ls i)) ∧ (vlR 200 Wd S I) ∧ (w0 = w1) ∧ (0 ≤ w0.toInt ∧ w0.toInt ≤ 60) ∧ (fi ≤ w0.toNatClampNeg) ∧ (∀ i, i < w0.toNatClampNeg → wtE G O K H i) ∧ (∀ i, i < w0.toNatClampNeg → wtP P R S i) ∧ (∀ i, i < w0.toNatClampNeg → (Ln i = cur ↔ fi ≤ i) ∧ (Ln i).toInt ≤ cur.toInt) ∧ (∀ i, i < w0.toNatClampNeg → ¬ O i = 0 → (K i = 0 → (H i).toInt < c1.toInt ∧ Hs (H i).toNatClampNeg = 0) ∧ (K i = 2 → (H i).toInt < l1.toInt))
theorem aRf.pl {p0 c0 l0 w0 cur : Int32} {N : Nat → Int64} {V Wd Ls D G P Ln : Nat → Int32} {p1 c1 l1 w1 : Int32} {N' : Nat → Int64} {I S Hs X L' Bh Bk K H R O : Nat → Int32} {fi : Nat} (h : aRf p0 c0 l0 w0 cur N V Wd Ls D G P Ln p1 c1 l1 w1 N' I S Hs X L' Bh Bk K H R O fi) : p0 = p1 := h.1
theorem aRf.plv {p0 c0 l0 w0 cur : Int32} {N : Nat → Int64} {V Wd Ls D G P Ln : Nat → Int32} {p1 c1 l1 w1 : Int32} {N' : Nat → Int64} {I S Hs X L' Bh Bk K H R O : Nat → Int32} {fi : Nat} (h : aRf p0 c0 l0 w0 cur N V Wd Ls D G P Ln p1 c1 l1 w1 N' I S Hs X L' Bh Bk K H R O fi) : vOk p0 := h.2.1
theorem aRf.cn {p0 c0 l0 w0 cur : Int32} {N : Nat → Int64} {V Wd Ls D G P Ln : Nat → Int32} {p1 c1 l1 w1 : Int32} {N' : Nat → Int64} {I S Hs X L' Bh Bk K H R O : Nat → Int32} {fi : Nat} (h : aRf p0 c0 l0 w0 cur N V Wd Ls D G P Ln p1 c1 l1 w1 N' I S Hs X L' Bh Bk K H R O fi) : c0 = c1 := h.2.2.1
theorem aRf.nm {p0 c0 l0 w0 cur : Int32} {N : Nat → Int64} {V Wd Ls D G P Ln : Nat → Int32} {p1 c1 l1 w1 : Int32} {N' : Nat → Int64} {I S Hs X L' Bh Bk K H R O : Nat → Int32} {fi : Nat} (h : aRf p0 c0 l0 w0 cur N V Wd Ls D G P Ln p1 c1 l1 w1 N' I S Hs X L' Bh Bk K H R O fi) : nmR c0 N N' := h.2.2.2.1
theorem aRf.vl {p0 c0 l0 w0 cur : Int32} {N : Nat → Int64} {V Wd Ls D G P Ln : Nat → Int32} {p1 c1 l1 w1 : Int32} {N' : Nat → Int64} {I S Hs X L' Bh Bk K H R O : Nat → Int32} {fi : Nat} (h : aRf p0 c0 l0 w0 cur N V Wd Ls D G P Ln p1 c1 l1 w1 N' I S Hs X L' Bh Bk K H R O fi) : vlR c0.toNatClampNeg V Hs X := h.2.2.2.2.1
theorem aRf.dg {p0 c0 l0 w0 cur : Int32} {N : Nat → Int64} {V Wd Ls D G P Ln : Nat → Int32} {p1 c1 l1 w1 : Int32} {N' : Nat → Int64} {I S Hs X L' Bh Bk K H R O : Nat → Int32} {fi : Nat} (h : aRf p0 c0 l0 w0 cur N V Wd Ls D G P Ln p1 c1 l1 w1 N' I S Hs X L' Bh Bk K H R O fi) : vlR 10 D Bh Bk := h.2.2.2.2.2.1
theorem aRf.lc {p0 c0 l0 w0 cur : Int32} {N : Nat → Int64} {V Wd Ls D G P Ln : Nat → Int32} {p1 c1 l1 w1 : Int32} {N' : Nat → Int64} {I S Hs X L' Bh Bk K H R O : Nat → Int32} {fi : Nat} (h : aRf p0 c0 l0 w0 cur N V Wd Ls D G P Ln p1 c1 l1 w1 N' I S Hs X L' Bh Bk K H R O fi) : l0 = l1 := h.2.2.2.2.2.2.1
theorem aRf.lr {p0 c0 l0 w0 cur : Int32} {N : Nat → Int64} {V Wd Ls D G P Ln : Nat → Int32} {p1 c1 l1 w1 : Int32} {N' : Nat → Int64} {I S Hs X L' Bh Bk K H R O : Nat → Int32} {fi : Nat} (h : aRf p0 c0 l0 w0 cur N V Wd Ls D G P Ln p1 c1 l1 w1 N' I S Hs X L' Bh Bk K H R O fi) : 0 ≤ l0.toInt ∧ l0.toInt ≤ 20 := h.2.2.2.2.2.2.2.1
theorem aRf.lt {p0 c0 l0 w0 cur : Int32} {N : Nat → Int64} {V Wd Ls D G P Ln : Nat → Int32} {p1 c1 l1 w1 : Int32} {N' : Nat → Int64} {I S Hs X L' Bh Bk K H R O : Nat → Int32} {fi : Nat} (h : aRf p0 c0 l0 w0 cur N V Wd Ls D G P Ln p1 c1 l1 w1 N' I S Hs X L' Bh Bk K H R O fi) : ∀ i, i < l0.toNatClampNeg → Ls i = L' i ∧ wOk (Ls i) := h.2.2.2.2.2.2.2.2.1
theorem aRf.wd {p0 c0 l0 w0 cur : Int32} {N : Nat → Int64} {V Wd Ls D G P Ln : Nat → Int32} {p1 c1 l1 w1 : Int32} {N' : Nat → Int64} {I S Hs X L' Bh Bk K H R O : Nat → Int32} {fi : Nat} (h : aRf p0 c0 l0 w0 cur N V Wd Ls D G P Ln p1 c1 l1 w1 N' I S Hs X L' Bh Bk K H R O fi) : vlR 200 Wd S I := h.2.2.2.2.2.2.2.2.2.1
theorem aRf.wt {p0 c0 l0 w0 cur : Int32} {N : Nat → Int64} {V Wd Ls D G P Ln : Nat → Int32} {p1 c1 l1 w1 : Int32} {N' : Nat → Int64} {I S Hs X L' Bh Bk K H R O : Nat → Int32} {fi : Nat} (h : aRf p0 c0 l0 w0 cur N V Wd Ls D G P Ln p1 c1 l1 w1 N' I S Hs X L' Bh Bk K H R O fi) : w0 = w1 := h.2.2.2.2.2.2.2.2.2.2.1
theorem aRf.wr {p0 c0 l0 w0 cur : Int32} {N : Nat → Int64} {V Wd Ls D G P Ln : Nat → Int32} {p1 c1 l1 w1 : Int32} {N' : Nat → Int64} {I S Hs X L' Bh Bk K H R O : Nat → Int32} {fi : Nat} (h : aRf p0 c0 l0 w0 cur N V Wd Ls D G P Ln p1 c1 l1 w1 N' I S Hs X L' Bh Bk K H R O fi) : 0 ≤ w0.toInt ∧ w0.toInt ≤ 60 := h.2.2.2.2.2.2.2.2.2.2.2.1
theorem aRf.fs {p0 c0 l0 w0 cur : Int32} {N : Nat → Int64} {V Wd Ls D G P Ln : Nat → Int32} {p1 c1 l1 w1 : Int32} {N' : Nat → Int64} {I S Hs X L' Bh Bk K H R O : Nat → Int32} {fi : Nat} (h : aRf p0 c0 l0 w0 cur N V Wd Ls D G P Ln p1 c1 l1 w1 N' I S Hs X L' Bh Bk K H R O fi) : fi ≤ w0.toNatClampNeg := h.2.2.2.2.2.2.2.2.2.2.2.2.1
theorem aRf.en {p0 c0 l0 w0 cur : Int32} {N : Nat → Int64} {V Wd Ls D G P Ln : Nat → Int32} {p1 c1 l1 w1 : Int32} {N' : Nat → Int64} {I S Hs X L' Bh Bk K H R O : Nat → Int32} {fi : Nat} (h : aRf p0 c0 l0 w0 cur N V Wd Ls D G P Ln p1 c1 l1 w1 N' I S Hs X L' Bh Bk K H R O fi) : ∀ i, i < w0.toNatClampNeg → wtE G O K H i := h.2.2.2.2.2.2.2.2.2.2.2.2.2.1
theorem aRf.wp {p0 c0 l0 w0 cur : Int32} {N : Nat → Int64} {V Wd Ls D G P Ln : Nat → Int32} {p1 c1 l1 w1 : Int32} {N' : Nat → Int64} {I S Hs X L' Bh Bk K H R O : Nat → Int32} {fi : Nat} (h : aRf p0 c0 l0 w0 cur N V Wd Ls D G P Ln p1 c1 l1 w1 N' I S Hs X L' Bh Bk K H R O fi) : ∀ i, i < w0.toNatClampNeg → wtP P R S i := h.2.2.2.2.2.2.2.2.2.2.2.2.2.2.1
theorem aRf.ln {p0 c0 l0 w0 cur : Int32} {N : Nat → Int64} {V Wd Ls D G P Ln : Nat → Int32} {p1 c1 l1 w1 : Int32} {N' : Nat → Int64} {I S Hs X L' Bh Bk K H R O : Nat → Int32} {fi : Nat} (h : aRf p0 c0 l0 w0 cur N V Wd Ls D G P Ln p1 c1 l1 w1 N' I S Hs X L' Bh Bk K H R O fi) : ∀ i, i < w0.toNatClampNeg → (Ln i = cur ↔ fi ≤ i) ∧ (Ln i).toInt ≤ cur.toInt := h.2.2.2.2.2.2.2.2.2.2.2.2.2.2.2.1
theorem aRf.kd {p0 c0 l0 w0 cur : Int32} {N : Nat → Int64} {V Wd Ls D G P Ln : Nat → Int32} {p1 c1 l1 w1 : Int32} {N' : Nat → Int64} {I S Hs X L' Bh Bk K H R O : Nat → Int32} {fi : Nat} (h : aRf p0 c0 l0 w0 cur N V Wd Ls D G P Ln p1 c1 l1 w1 N' I S Hs X L' Bh Bk K H R O fi) : ∀ i, i < w0.toNatClampNeg → ¬ O i = 0 → (K i = 0 → (H i).toInt < c1.toInt ∧ Hs (H i).toNatClampNeg = 0) ∧ (K i = 2 → (H i).toInt < l1.toInt) := h.2.2.2.2.2.2.2.2.2.2.2.2.2.2.2.2
theorem aRf.mk {p0 c0 l0 w0 cur : Int32} {N : Nat → Int64} {V Wd Ls D G P Ln : Nat → Int32} {p1 c1 l1 w1 : Int32} {N' : Nat → Int64} {I S Hs X L' Bh Bk K H R O : Nat → Int32} {fi : Nat} (pl : p0 = p1) (plv : vOk p0) (cn : c0 = c1) (nm : nmR c0 N N') (vl : vlR c0.toNatClampNeg V Hs X) (dg : vlR 10 D Bh Bk) (lc : l0 = l1) (lr : 0 ≤ l0.toInt ∧ l0.toInt ≤ 20) (lt : ∀ i, i < l0.toNatClampNeg → Ls i = L' i ∧ wOk (Ls i)) (wd : vlR 200 Wd S I) (wt : w0 = w1) (wr : 0 ≤ w0.toInt ∧ w0.toInt ≤ 60) (fs : fi ≤ w0.toNatClampNeg) (en : ∀ i, i < w0.toNatClampNeg → wtE G O K H i) (wp : ∀ i, i < w0.toNatClampNeg → wtP P R S i) (ln : ∀ i, i < w0.toNatClampNeg → (Ln i = cur ↔ fi ≤ i) ∧ (Ln i).toInt ≤ cur.toInt) (kd : ∀ i, i < w0.toNatClampNeg → ¬ O i = 0 → (K i = 0 → (H i).toInt < c1.toInt ∧ Hs (H i).toNatClampNeg = 0) ∧ (K i = 2 → (H i).toInt < l1.toInt)) : aRf p0 c0 l0 w0 cur N V Wd Ls D G P Ln p1 c1 l1 w1 N' I S Hs X L' Bh Bk K H R O fi := ⟨pl, plv, cn, nm, vl, dg, lc, lr, lt, wd, wt, wr, fs, en, wp, ln, kd⟩
abbrev aR (σ τ : zS) (fi : Nat) : Prop := aRf (xPl σ) (xCn σ) (xLc σ) (xWc σ) (σ.1 11 11) (σ.2.2.2.1 13) (σ.2.2.1 14) (σ.2.2.1 22) (σ.2.2.1 23) (σ.2.2.1 24) (σ.2.2.1 19) (σ.2.2.1 20) (σ.2.2.1 21) (yPl τ) (yCn τ) (yLc τ) (yWt τ) (τ.2.2.2.1 35) (τ.2.2.1 33) (τ.2.2.1 34) (τ.2.2.1 36) (τ.2.2.1 37) (τ.2.2.1 38) (τ.2.2.1 39) (τ.2.2.1 40) (τ.2.2.1 41) (τ.2.2.1 42) (τ.2.2.1 43) (τ.2.2.1 44) fi
variable {σ τ : zS} {fi : Nat}
theorem aR_sym (h : aR σ τ fi) : symR σ τ := ⟨h.cn, h.nm, h.vl⟩
theorem aR_l (h : aR σ τ fi) : lRel (xL σ) τ := sym_lRel (aR_sym h)
theorem plc_i {x : Int32} : yPlc x ↔ (0 ≤ x.toInt ∧ x.toInt < 200) := by
  simp only [yPlc, Int32.lt_iff_toInt_lt, i0, show (199 : Int32).toInt = 199 from rfl]
  omega
theorem plc_z {x : Int32} : zPlc x ↔ (0 ≤ x.toInt ∧ x.toInt < 200) := by
  simp only [zPlc, Int32.lt_iff_toInt_lt, i0, show (200 : Int32).toInt = 200 from rfl]
  omega
theorem plc_zy {x : Int32} : zPlc x ↔ yPlc x := plc_z.trans plc_i.symm
theorem int1 {x : Int32} (h0 : 0 ≤ x.toInt) (h : x.toInt ≤ 1000) : (x + 1).toInt = x.toInt + 1 := by
  rw [Int32.toInt_add, show (1 : Int32).toInt = 1 from rfl, bm32 (by omega) (by omega)]
theorem vlR_upd {n : Nat} {V H X : Nat → Int32} {a : Nat} {w b : Int32} (h : vlR n V H X) (hw : wOk w) (hb : ¬ b = 0) : vlR n (upd V a w) (upd H a b) (upd X a w) := by
  intro i hi
  rw [upd_eq, upd_eq, upd_eq]
  by_cases e : i = a
  · rw [if_pos e, if_pos e, if_pos e]
    exact .inr ⟨hw, rfl, hb⟩
  · rw [if_neg e, if_neg e, if_neg e]
    exact h i hi
/-- a word is put -/
theorem aR_put (h : aR σ τ fi) (hp : yPlc (yPl τ)) {w : Int32} (hw : wOk w) : aR (zPut σ w) (zI (yStd τ (yPl τ) w) 25 24 (yPl τ + 1)) fi := by
  have hp' := plc_i.1 hp
  have hi := int1 hp'.1 (by omega)
  have e := h.pl
  exact aRf.mk
    (pl := by show xPl σ + 1 = yPl τ + 1; rw [e])
    (plv := by
      show vOk (xPl σ + 1)
      rw [e]
      exact ⟨by omega, by omega⟩) (cn := h.cn) (nm := h.nm) (vl := h.vl) (dg := h.dg) (lc := h.lc) (lr := h.lr) (lt := h.lt)
    (wd := by
      show vlR 200 (upd (σ.2.2.1 22) (xPl σ).toNatClampNeg w) (upd (τ.2.2.1 34) (yPl τ).toNatClampNeg (vp_nar .boolean 1)) (upd (τ.2.2.1 33) (yPl τ).toNatClampNeg w)
      rw [e]
      exact vlR_upd h.wd hw (by decide)) (wt := h.wt) (wr := h.wr) (fs := h.fs) (en := h.en)
    (wp := fun i hi' => by
      have h1 := h.wp i hi'
      refine ⟨h1.1, h1.2.1, h1.2.2.1, ?_⟩
      show ¬ upd (τ.2.2.1 34) (yPl τ).toNatClampNeg (vp_nar .boolean 1) (σ.2.2.1 20 i).toNatClampNeg = 0
      rw [upd_eq]
      split
      · decide
      · exact h1.2.2.2) (ln := h.ln) (kd := h.kd)
/-- as the reference's, but for the place -/
abbrev yAddp (σ : zS) (k x p : Int32) : zS := zI (zA (zA (zA (zA σ 41 (upd (σ.2.2.1 41) (yWt σ).toNatClampNeg k)) 42 (upd (σ.2.2.1 42) (yWt σ).toNatClampNeg x)) 43 (upd (σ.2.2.1 43) (yWt σ).toNatClampNeg p)) 44 (upd (σ.2.2.1 44) (yWt σ).toNatClampNeg (vp_nar .boolean 1))) 25 37 (yWt σ + 1)
/-- what is waited for -/
def tgR (τ : zS) (tg kd x : Int32) : Prop := tg.toInt = 100 * kd.toInt + x.toInt ∧ (0 ≤ kd.toInt ∧ kd.toInt ≤ 2) ∧ (0 ≤ x.toInt ∧ x.toInt < 100) ∧ (kd = 0 → x.toInt < (yCn τ).toInt ∧ τ.2.2.1 36 x.toNatClampNeg = 0) ∧ (kd = 2 → x.toInt < (yLc τ).toInt)
theorem aR_add (h : aR σ τ fi) {tg kd x p : Int32} (ht : tgR τ tg kd x) (h60 : xWc σ < 60) (hp : 0 ≤ p.toInt ∧ p.toInt < 200) (hs : ¬ τ.2.2.1 34 p.toNatClampNeg = 0) : aR (zAdd σ tg p (σ.1 11 11)) (yAddp τ kd x p) fi := by
  have hlt := Int32.lt_iff_toInt_lt.mp h60
  rw [show (60 : Int32).toInt = 60 from rfl] at hlt
  have hr := h.wr
  have hi := int1 hr.1 (by omega)
  have e := h.wt
  have e0 := tn_i hr.1
  have e1 := tn_i (x := xWc σ + 1) (by omega)
  exact aRf.mk (pl := h.pl) (plv := h.plv) (cn := h.cn) (nm := h.nm) (vl := h.vl) (dg := h.dg) (lc := h.lc) (lr := h.lr) (lt := h.lt) (wd := h.wd)
    (wt := by show xWc σ + 1 = yWt τ + 1; rw [e])
    (wr := by show 0 ≤ (xWc σ + 1).toInt ∧ (xWc σ + 1).toInt ≤ 60; omega)
    (fs := by
      have := h.fs
      show fi ≤ (xWc σ + 1).toNatClampNeg
      omega)
    (en := fun i hi' => by
      have hi2 : i < (xWc σ + 1).toNatClampNeg := hi'
      show ((upd (σ.2.2.1 19) (xWc σ).toNatClampNeg tg i = -1 ∧ upd (τ.2.2.1 44) (yWt τ).toNatClampNeg (vp_nar .boolean 1) i = 0) ∨ ((upd (σ.2.2.1 19) (xWc σ).toNatClampNeg tg i).toInt = 100 * (upd (τ.2.2.1 41) (yWt τ).toNatClampNeg kd i).toInt + (upd (τ.2.2.1 42) (yWt τ).toNatClampNeg x i).toInt ∧ ¬ upd (τ.2.2.1 44) (yWt τ).toNatClampNeg (vp_nar .boolean 1) i = 0)) ∧ (0 ≤ (upd (τ.2.2.1 41) (yWt τ).toNatClampNeg kd i).toInt ∧ (upd (τ.2.2.1 41) (yWt τ).toNatClampNeg kd i).toInt ≤ 2) ∧ (0 ≤ (upd (τ.2.2.1 42) (yWt τ).toNatClampNeg x i).toInt ∧ (upd (τ.2.2.1 42) (yWt τ).toNatClampNeg x i).toInt < 100)
      rw [upd_eq, upd_eq, upd_eq, upd_eq, ← e]
      by_cases k : i = (xWc σ).toNatClampNeg
      · rw [if_pos k, if_pos k, if_pos k, if_pos k]
        exact ⟨.inr ⟨ht.1, by decide⟩, ht.2.1, ht.2.2.1⟩
      · rw [if_neg k, if_neg k, if_neg k, if_neg k]
        exact h.en i (by omega))
    (wp := fun i hi' => by
      have hi2 : i < (xWc σ + 1).toNatClampNeg := hi'
      show upd (σ.2.2.1 20) (xWc σ).toNatClampNeg p i = upd (τ.2.2.1 43) (yWt τ).toNatClampNeg p i ∧ 0 ≤ (upd (σ.2.2.1 20) (xWc σ).toNatClampNeg p i).toInt ∧ (upd (σ.2.2.1 20) (xWc σ).toNatClampNeg p i).toInt < 200 ∧ ¬ τ.2.2.1 34 (upd (σ.2.2.1 20) (xWc σ).toNatClampNeg p i).toNatClampNeg = 0
      rw [upd_eq, upd_eq, ← e]
      by_cases k : i = (xWc σ).toNatClampNeg
      · rw [if_pos k, if_pos k]
        exact ⟨rfl, hp.1, hp.2, hs⟩
      · rw [if_neg k, if_neg k]
        exact h.wp i (by omega))
    (ln := fun i hi' => by
      have hi2 : i < (xWc σ + 1).toNatClampNeg := hi'
      show (upd (σ.2.2.1 21) (xWc σ).toNatClampNeg (σ.1 11 11) i = σ.1 11 11 ↔ fi ≤ i) ∧ (upd (σ.2.2.1 21) (xWc σ).toNatClampNeg (σ.1 11 11) i).toInt ≤ (σ.1 11 11).toInt
      rw [upd_eq]
      by_cases k : i = (xWc σ).toNatClampNeg
      · rw [if_pos k]
        have := h.fs
        exact ⟨⟨fun _ => by omega, fun _ => rfl⟩, Int.le_refl _⟩
      · rw [if_neg k]
        exact h.ln i (by omega))
    (kd := fun i hi' ho => by
      have hi2 : i < (xWc σ + 1).toNatClampNeg := hi'
      have ho2 : ¬ upd (τ.2.2.1 44) (yWt τ).toNatClampNeg (vp_nar .boolean 1) i = 0 := ho
      show (upd (τ.2.2.1 41) (yWt τ).toNatClampNeg kd i = 0 → (upd (τ.2.2.1 42) (yWt τ).toNatClampNeg x i).toInt < (yCn τ).toInt ∧ τ.2.2.1 36 (upd (τ.2.2.1 42) (yWt τ).toNatClampNeg x i).toNatClampNeg = 0) ∧ (upd (τ.2.2.1 41) (yWt τ).toNatClampNeg kd i = 2 → (upd (τ.2.2.1 42) (yWt τ).toNatClampNeg x i).toInt < (yLc τ).toInt)
      rw [upd_eq, ← e] at ho2
      rw [upd_eq, upd_eq, ← e]
      by_cases k : i = (xWc σ).toNatClampNeg
      · rw [if_pos k, if_pos k]
        exact ht.2.2.2
      · rw [if_neg k] at ho2
        rw [if_neg k, if_neg k]
        exact h.kd i (by omega) ho2)
/-- a new symbol -/
theorem aR_new (h : aR σ τ fi) {nm : Int64} (hn : ∀ i, i < (xCn σ).toNatClampNeg → ¬ σ.2.2.2.1 13 i = nm) (hc : xCn σ < 30) : aR (zNew σ nm) (yNew τ nm) fi := by
  have hs := sym_new (aR_sym h) hn hc
  have h30 := h.nm.1
  have hi := zInc hc
  have e := h.cn
  exact aRf.mk (pl := h.pl) (plv := h.plv)
    (cn := hs.1)
    (nm := hs.2.1)
    (vl := hs.2.2) (dg := h.dg) (lc := h.lc) (lr := h.lr) (lt := h.lt) (wd := h.wd) (wt := h.wt) (wr := h.wr) (fs := h.fs) (en := h.en) (wp := h.wp) (ln := h.ln)
    (kd := fun i hi' ho => by
      have h1 := h.kd i hi' ho
      refine ⟨fun k => ?_, h1.2⟩
      have h2 := h1.1 k
      have h3 := (h.en i hi').2.2
      show (τ.2.2.1 42 i).toInt < (yCn τ + 1).toInt ∧ upd (τ.2.2.1 36) (yCn τ).toNatClampNeg (vp_nar .boolean 0) (τ.2.2.1 42 i).toNatClampNeg = 0
      rw [upd_eq, ← e, hi]
      rw [← e] at h2
      refine ⟨by omega, ?_⟩
      split
      · decide
      · exact h2.2)
/-- a new literal -/
theorem aR_lit (h : aR σ τ fi) {w q q' b : Int32} (hw : wOk w) (hl : xLc σ < 20) : aR (zLit (zI σ 9 2 q) w) (zI (zA (zPb2 τ q' b) 38 (upd (τ.2.2.1 38) (yLc τ).toNatClampNeg w)) 25 33 (yLc τ + 1)) fi := by
  have hlt := Int32.lt_iff_toInt_lt.mp hl
  rw [show (20 : Int32).toInt = 20 from rfl] at hlt
  have hr := h.lr
  have hi := int1 hr.1 (by omega)
  have e := h.lc
  have e0 := tn_i hr.1
  have e1 := tn_i (x := xLc σ + 1) (by omega)
  exact aRf.mk (pl := h.pl) (plv := h.plv) (cn := h.cn) (nm := h.nm) (vl := h.vl) (dg := h.dg)
    (lc := by show xLc σ + 1 = yLc τ + 1; rw [e])
    (lr := by show 0 ≤ (xLc σ + 1).toInt ∧ (xLc σ + 1).toInt ≤ 20; omega)
    (lt := fun i hi' => by
      have hi2 : i < (xLc σ + 1).toNatClampNeg := hi'
      show upd (σ.2.2.1 23) (xLc σ).toNatClampNeg w i = upd (τ.2.2.1 38) (yLc τ).toNatClampNeg w i ∧ wOk (upd (σ.2.2.1 23) (xLc σ).toNatClampNeg w i)
      rw [upd_eq, upd_eq, ← e]
      by_cases k : i = (xLc σ).toNatClampNeg
      · rw [if_pos k, if_pos k]
        exact ⟨rfl, hw⟩
      · rw [if_neg k, if_neg k]
        exact h.lt i (by omega)) (wd := h.wd) (wt := h.wt) (wr := h.wr) (fs := h.fs) (en := h.en) (wp := h.wp) (ln := h.ln)
    (kd := fun i hi' ho => by
      have h1 := h.kd i hi' ho
      refine ⟨h1.1, fun k => ?_⟩
      have h2 := h1.2 k
      show (τ.2.2.1 42 i).toInt < (yLc τ + 1).toInt
      rw [← e, hi]
      rw [← e] at h2
      omega)
