/-! BOTH PROCESSORS: the relation, printed by program -/
def pR9 (σ τ : zS) : Prop := (σ.2.2.1 1 = τ.2.2.1 26) ∧ (σ.2.2.1 8 = τ.2.2.1 27) ∧ (σ.1 7 3 = τ.1 25 3) ∧ (σ.1 7 4 = τ.1 25 5) ∧ (σ.1 7 5 = τ.1 25 6) ∧ (σ.1 7 6 = τ.1 25 10) ∧ (σ.1 7 7 = τ.1 25 8) ∧ (σ.1 7 8 = τ.1 25 9) ∧ (σ.2.2.1 3 = τ.2.2.1 28) ∧ (σ.1 2 5 = τ.1 25 12) ∧ (σ.2.2.1 6 = τ.2.2.1 31) ∧ (σ.1 7 9 = τ.1 25 7) ∧ (crdR (σ.1 2 6) (σ.1 2 7) (σ.2.2.1 4) (τ.1 25 13) (τ.2.2.1 29)) ∧ (linR (σ.1 2 8) (σ.2.2.1 5) (τ.1 25 15) (τ.2.2.1 30)) ∧ (∀ j, j < 200 → wOk (τ.2.2.1 26 j)) ∧ (gOk (τ.2.2.1 27)) ∧ (∀ j, j < 60 → wOk (τ.2.2.1 28 j)) ∧ (∀ j, j < 4 * (τ.1 25 13).toInt.toNat → wOk (τ.2.2.1 29 j)) ∧ (τ.1 25 3 = 0 ∨ τ.1 25 3 = 1) ∧ (0 ≤ (τ.1 25 12).toInt ∧ (τ.1 25 12).toInt ≤ 6) ∧ (0 ≤ (τ.1 25 10).toInt)
section PR
variable {σ τ : zS}
theorem pR9.M (h : pR9 σ τ) : σ.2.2.1 1 = τ.2.2.1 26 := h.1
theorem pR9.R (h : pR9 σ τ) : σ.2.2.1 8 = τ.2.2.1 27 := h.2.1
theorem pR9.tg (h : pR9 σ τ) : σ.1 7 3 = τ.1 25 3 := h.2.2.1
theorem pR9.id (h : pR9 σ τ) : σ.1 7 4 = τ.1 25 5 := h.2.2.2.1
theorem pR9.pl (h : pR9 σ τ) : σ.1 7 5 = τ.1 25 6 := h.2.2.2.2.1
theorem pR9.st (h : pR9 σ τ) : σ.1 7 6 = τ.1 25 10 := h.2.2.2.2.2.1
theorem pR9.sd (h : pR9 σ τ) : σ.1 7 7 = τ.1 25 8 := h.2.2.2.2.2.2.1
theorem pR9.sw (h : pR9 σ τ) : σ.1 7 8 = τ.1 25 9 := h.2.2.2.2.2.2.2.1
theorem pR9.tp (h : pR9 σ τ) : σ.2.2.1 3 = τ.2.2.1 28 := h.2.2.2.2.2.2.2.2.1
theorem pR9.bk (h : pR9 σ τ) : σ.1 2 5 = τ.1 25 12 := h.2.2.2.2.2.2.2.2.2.1
theorem pR9.un (h : pR9 σ τ) : σ.2.2.1 6 = τ.2.2.1 31 := h.2.2.2.2.2.2.2.2.2.2.1
theorem pR9.nx (h : pR9 σ τ) : σ.1 7 9 = τ.1 25 7 := h.2.2.2.2.2.2.2.2.2.2.2.1
theorem pR9.cr (h : pR9 σ τ) : crdR (σ.1 2 6) (σ.1 2 7) (σ.2.2.1 4) (τ.1 25 13) (τ.2.2.1 29) := h.2.2.2.2.2.2.2.2.2.2.2.2.1
theorem pR9.li (h : pR9 σ τ) : linR (σ.1 2 8) (σ.2.2.1 5) (τ.1 25 15) (τ.2.2.1 30) := h.2.2.2.2.2.2.2.2.2.2.2.2.2.1
theorem pR9.wM (h : pR9 σ τ) : ∀ j, j < 200 → wOk (τ.2.2.1 26 j) := h.2.2.2.2.2.2.2.2.2.2.2.2.2.2.1
theorem pR9.wR (h : pR9 σ τ) : gOk (τ.2.2.1 27) := h.2.2.2.2.2.2.2.2.2.2.2.2.2.2.2.1
theorem pR9.wT (h : pR9 σ τ) : ∀ j, j < 60 → wOk (τ.2.2.1 28 j) := h.2.2.2.2.2.2.2.2.2.2.2.2.2.2.2.2.1
theorem pR9.wC (h : pR9 σ τ) : ∀ j, j < 4 * (τ.1 25 13).toInt.toNat → wOk (τ.2.2.1 29 j) := h.2.2.2.2.2.2.2.2.2.2.2.2.2.2.2.2.2.1
theorem pR9.tb (h : pR9 σ τ) : τ.1 25 3 = 0 ∨ τ.1 25 3 = 1 := h.2.2.2.2.2.2.2.2.2.2.2.2.2.2.2.2.2.2.1
theorem pR9.bb (h : pR9 σ τ) : 0 ≤ (τ.1 25 12).toInt ∧ (τ.1 25 12).toInt ≤ 6 := h.2.2.2.2.2.2.2.2.2.2.2.2.2.2.2.2.2.2.2.1
theorem pR9.sb (h : pR9 σ τ) : 0 ≤ (τ.1 25 10).toInt := h.2.2.2.2.2.2.2.2.2.2.2.2.2.2.2.2.2.2.2.2
theorem pR9.mk (M : σ.2.2.1 1 = τ.2.2.1 26) (R : σ.2.2.1 8 = τ.2.2.1 27) (tg : σ.1 7 3 = τ.1 25 3) (id : σ.1 7 4 = τ.1 25 5) (pl : σ.1 7 5 = τ.1 25 6) (st : σ.1 7 6 = τ.1 25 10) (sd : σ.1 7 7 = τ.1 25 8) (sw : σ.1 7 8 = τ.1 25 9) (tp : σ.2.2.1 3 = τ.2.2.1 28) (bk : σ.1 2 5 = τ.1 25 12) (un : σ.2.2.1 6 = τ.2.2.1 31) (nx : σ.1 7 9 = τ.1 25 7) (cr : crdR (σ.1 2 6) (σ.1 2 7) (σ.2.2.1 4) (τ.1 25 13) (τ.2.2.1 29)) (li : linR (σ.1 2 8) (σ.2.2.1 5) (τ.1 25 15) (τ.2.2.1 30)) (wM : ∀ j, j < 200 → wOk (τ.2.2.1 26 j)) (wR : gOk (τ.2.2.1 27)) (wT : ∀ j, j < 60 → wOk (τ.2.2.1 28 j)) (wC : ∀ j, j < 4 * (τ.1 25 13).toInt.toNat → wOk (τ.2.2.1 29 j)) (tb : τ.1 25 3 = 0 ∨ τ.1 25 3 = 1) (bb : 0 ≤ (τ.1 25 12).toInt ∧ (τ.1 25 12).toInt ≤ 6) (sb : 0 ≤ (τ.1 25 10).toInt) : pR9 σ τ := ⟨M, R, tg, id, pl, st, sd, sw, tp, bk, un, nx, cr, li, wM, wR, wT, wC, tb, bb, sb⟩
theorem pR9_S (h : pR9 σ τ) (k : Int32) : pR9 (σ) (zI τ 25 4 k) := pR9.mk h.M h.R h.tg h.id h.pl h.st h.sd h.sw h.tp h.bk h.un h.nx h.cr h.li h.wM h.wR h.wT h.wC h.tb h.bb h.sb
theorem pR9_R (h : pR9 σ τ) {R' : Nat → Int32} (hw : gOk R') : pR9 (zA σ 8 R') (zA τ 27 R') := pR9.mk h.M rfl h.tg h.id h.pl h.st h.sd h.sw h.tp h.bk h.un h.nx h.cr h.li h.wM hw h.wT h.wC h.tb h.bb h.sb
theorem pR9_M (h : pR9 σ τ) {M' : Nat → Int32} (hw : ∀ j, j < 200 → wOk (M' j)) : pR9 (zA σ 1 M') (zA τ 26 M') := pR9.mk rfl h.R h.tg h.id h.pl h.st h.sd h.sw h.tp h.bk h.un h.nx h.cr h.li hw h.wR h.wT h.wC h.tb h.bb h.sb
theorem pR9_tg (h : pR9 σ τ) {x : Int32} (hx : x = 0 ∨ x = 1) : pR9 (zI σ 7 3 x) (zI τ 25 3 x) := pR9.mk h.M h.R rfl h.id h.pl h.st h.sd h.sw h.tp h.bk h.un h.nx h.cr h.li h.wM h.wR h.wT h.wC hx h.bb h.sb
theorem pR9_id (h : pR9 σ τ) (x : Int32) : pR9 (zI σ 7 4 x) (zI τ 25 5 x) := pR9.mk h.M h.R h.tg rfl h.pl h.st h.sd h.sw h.tp h.bk h.un h.nx h.cr h.li h.wM h.wR h.wT h.wC h.tb h.bb h.sb
theorem pR9_st (h : pR9 σ τ) {x : Int32} (hx : 0 ≤ x.toInt) : pR9 (zI σ 7 6 x) (zI τ 25 10 x) := pR9.mk h.M h.R h.tg h.id h.pl rfl h.sd h.sw h.tp h.bk h.un h.nx h.cr h.li h.wM h.wR h.wT h.wC h.tb h.bb hx
theorem pR9_nx (h : pR9 σ τ) (x : Int32) : pR9 (zI σ 7 9 x) (zI τ 25 7 x) := pR9.mk h.M h.R h.tg h.id h.pl h.st h.sd h.sw h.tp h.bk h.un rfl h.cr h.li h.wM h.wR h.wT h.wC h.tb h.bb h.sb
theorem pR9_pl (h : pR9 σ τ) (x : Int32) : pR9 (zI σ 7 5 x) (zI τ 25 6 x) := pR9.mk h.M h.R h.tg h.id rfl h.st h.sd h.sw h.tp h.bk h.un h.nx h.cr h.li h.wM h.wR h.wT h.wC h.tb h.bb h.sb
theorem pR9_sd (h : pR9 σ τ) (x : Int32) : pR9 (zI σ 7 7 x) (zI τ 25 8 x) := pR9.mk h.M h.R h.tg h.id h.pl h.st rfl h.sw h.tp h.bk h.un h.nx h.cr h.li h.wM h.wR h.wT h.wC h.tb h.bb h.sb
theorem pR9_sw (h : pR9 σ τ) (x : Int32) : pR9 (zI σ 7 8 x) (zI τ 25 9 x) := pR9.mk h.M h.R h.tg h.id h.pl h.st h.sd rfl h.tp h.bk h.un h.nx h.cr h.li h.wM h.wR h.wT h.wC h.tb h.bb h.sb
theorem pR9_tp (h : pR9 σ τ) {T' : Nat → Int32} (hw : ∀ j, j < 60 → wOk (T' j)) : pR9 (zA σ 3 T') (zA τ 28 T') := pR9.mk h.M h.R h.tg h.id h.pl h.st h.sd h.sw rfl h.bk h.un h.nx h.cr h.li h.wM h.wR hw h.wC h.tb h.bb h.sb
theorem pR9_bk (h : pR9 σ τ) {x : Int32} (hx : 0 ≤ x.toInt ∧ x.toInt ≤ 6) : pR9 (zI σ 2 5 x) (zI τ 25 12 x) := pR9.mk h.M h.R h.tg h.id h.pl h.st h.sd h.sw h.tp rfl h.un h.nx h.cr h.li h.wM h.wR h.wT h.wC h.tb hx h.sb
theorem pR9_un (h : pR9 σ τ) (U' : Nat → Int32) : pR9 (zA σ 6 U') (zA τ 31 U') := pR9.mk h.M h.R h.tg h.id h.pl h.st h.sd h.sw h.tp h.bk rfl h.nx h.cr h.li h.wM h.wR h.wT h.wC h.tb h.bb h.sb
theorem pR9_rd (h : pR9 σ τ) {M' C' : Nat → Int32} {od cc cc' : Int32} (hw : ∀ j, j < 200 → wOk (M' j)) (hc : crdR od cc (σ.2.2.1 4) cc' C') (hC : ∀ j, j < 4 * cc'.toInt.toNat → wOk (C' j)) : pR9 (zI (zI (zA σ 1 M') 2 6 od) 2 7 cc) (zA (zI (zA τ 26 M') 25 13 cc') 29 C') := pR9.mk rfl h.R h.tg h.id h.pl h.st h.sd h.sw h.tp h.bk h.un h.nx hc h.li hw h.wR h.wT hC h.tb h.bb h.sb
theorem pR9_pr (h : pR9 σ τ) {L' P' : Nat → Int32} {lc lc' : Int32} (hl : linR lc L' lc' P') : pR9 (zI (zA σ 5 L') 2 8 lc) (zI (zA τ 30 P') 25 15 lc') := pR9.mk h.M h.R h.tg h.id h.pl h.st h.sd h.sw h.tp h.bk h.un h.nx h.cr hl h.wM h.wR h.wT h.wC h.tb h.bb h.sb
theorem pR9_cd (h : pR9 σ τ) {C C' : Nat → Int32} {cc cc' : Int32} (hc : crdR (σ.1 2 6) cc C cc' C') (hC : ∀ j, j < 4 * cc'.toInt.toNat → wOk (C' j)) : pR9 (zI (zA σ 4 C) 2 7 cc) (zI (zA τ 29 C') 25 13 cc') := pR9.mk h.M h.R h.tg h.id h.pl h.st h.sd h.sw h.tp h.bk h.un h.nx hc h.li h.wM h.wR h.wT hC h.tb h.bb h.sb
end PR
