/-! ONE INSTRUCTION on both sides: memory -/
/-- done by both, or stuck on both -/
def exR (x : Option zS) (σ τ τ' : zS) : Prop := (x = none ∧ ¬ yS τ' = 0 ∧ pR9 σ τ' ∧ qFr τ τ') ∨ (∃ σ2, x = some σ2 ∧ pW σ τ σ2 τ')
section ST
variable {σ τ σ0 τ0 : zS} {c f m g : Int32}
theorem exR_w {x : Option zS} {τ1 : zS} (w : pW σ τ σ τ1) (hx : x = none) : exR x σ τ (zI τ1 25 4 1) := .inl ⟨hx, (by show ¬ (1 : Int32) = 0; decide), pR9_S w.1 1, qFr_I w.2.2.1 (by decide)⟩
theorem exR_no {x : Option zS} (h : pR9 σ τ) (hx : x = none) : exR x σ τ (zI τ 25 4 1) := .inl ⟨hx, (by show ¬ (1 : Int32) = 0; decide), pR9_S h 1, qFr_I (qFr_r τ) (by decide)⟩
theorem exR_ok {x : Option zS} {σ2 τ' : zS} (hx : x = some σ2) (h : pW σ τ σ2 τ') : exR x σ τ τ' := .inr ⟨_, hx, h⟩
theorem upd_w {R : Nat → Int32} {n : Nat} (h : ∀ j, j < n → wOk (R j)) (i : Nat) {w : Int32} (hw : wOk w) : ∀ j, j < n → wOk (upd R i w j) := by
  intro j hj
  rw [upd_eq]
  split
  · exact hw
  · exact h j hj
theorem qPlc_int {m : Int32} : qPlc m ↔ (0 ≤ m.toInt ∧ m.toInt ≤ 199) := by
  unfold qPlc
  rw [Int32.lt_iff_toInt_lt, Int32.lt_iff_toInt_lt, show (0 : Int32).toInt = 0 from rfl, show (199 : Int32).toInt = 199 from rfl]
  omega
theorem plc_lt {m : Int32} (h : qPlc m) : m.toNatClampNeg < 200 := by
  have := qPlc_int.mp h
  rw [tnN]
  omega
theorem add_ok (h : pW σ0 τ0 σ τ) {r a : Int32} (hr : r.toNatClampNeg < 9) : pW σ0 τ0 (cAdd σ r a) (qAdd τ r a) := by
  have hR : pR σ = qR τ := h.1.R
  have hg := ad_r h.1.wR r a hr
  unfold cAdd qAdd
  have e : rAd (pR σ) r a = upd (qR τ) r.toNatClampNeg (wAy r (qR τ r.toNatClampNeg) a) := by
    unfold rAd
    rw [hR, wAd_ok]
  rw [e, hR]
  by_cases q : oAd r (qR τ r.toNatClampNeg) a
  · rw [if_pos q, if_pos q]
    exact pW_R (pW_tg h (.inr rfl)) hg
  · rw [if_neg q, if_neg q]
    exact pW_R h hg
theorem has_ok (hf : pF σ = f) (hm : pA σ = m) (f0 : ¬ f < 0) (f1 : ¬ 63 < f) : zHas σ ↔ (yFd5 f ∧ qPlc m) := by
  show zFld (pF σ).toInt64 ∧ zPlc (pA σ) ↔ _
  rw [hf, hm, zFld_ok, zPlc_q]
  exact ⟨fun q => ⟨q.1.2.2, q.2⟩, fun q => ⟨⟨f0, f1, q.1⟩, q.2⟩⟩
theorem pV_ok (h : pR9 σ τ) (hf : pF σ = f) (hm : pA σ = m) (f0 : ¬ f < 0) (f1 : ¬ 63 < f) (hF : yFd5 f) : pV σ = yPart (qM τ m.toNatClampNeg) f := by
  show zFo (pM σ (pA σ).toNatClampNeg) (pF σ) = _
  rw [hf, hm, show pM σ = qM τ from h.M, zFo_ok ⟨f0, f1, hF⟩]
theorem tch_no (hq : ¬ (yFd5 f ∧ qPlc m)) : yTch τ c f m = zI τ 25 4 1 := by
  unfold yTch
  rw [if_pos (.inr hq)]
theorem tch_ok (hs : yS τ = 0) (q : yFd5 f ∧ qPlc m) : ¬ (¬ yS τ = 0 ∨ ¬ (yFd5 f ∧ qPlc m)) := fun z => z.elim (fun z => z hs) (fun z => z q)
theorem calc_ok (h : pR9 σ τ) (hs : yS τ = 0) (hc : pO σ = c) (hf : pF σ = f) (hm : pA σ = m) (f0 : ¬ f < 0) (f1 : ¬ 63 < f) (c1 : c = 1 ∨ c = 2 ∨ c = 3 ∨ c = 4) : exR (if zHas σ then some (cCalc σ) else none) σ τ (yTch τ c f m) := by
  have hh := has_ok hf hm f0 f1
  by_cases q : yFd5 f ∧ qPlc m
  · rw [if_pos (hh.mpr q)]
    have w0 := pW_S (pW_0 h hs)
    have hv := pV_ok h hf hm f0 f1 q.1
    have wv : wOk (yPart (qM τ m.toNatClampNeg) f) := part_w (h.wM _ (plc_lt q.2)) f
    have hR : pR σ = qR τ := h.R
    have c5 : c < 5 := by rcases c1 with rfl | rfl | rfl | rfl <;> decide
    have eT : yTch τ c f m = yAri (zI τ 25 4 0) c (yPart (qM τ m.toNatClampNeg) f) := by
      unfold yTch
      rw [if_neg (tch_ok hs q), if_pos c5]
    rw [eT]
    rcases c1 with rfl | rfl | rfl | rfl
    · have e1 : cCalc σ = cAdd σ 0 (zVal (yPart (qM τ m.toNatClampNeg) f)) := by
        unfold cCalc
        rw [hc, hv, if_pos rfl]
      have e2 : yAri (zI τ 25 4 0) 1 (yPart (qM τ m.toNatClampNeg) f) = qAdd (zI τ 25 4 0) 0 (zVal (yPart (qM τ m.toNatClampNeg) f)) := by
        unfold yAri
        rw [if_pos rfl]
      rw [e1, e2]
      exact exR_ok rfl (add_ok w0 (by decide))
    · have e1 : cCalc σ = cAdd σ 0 (-(zVal (yPart (qM τ m.toNatClampNeg) f))) := by
        unfold cCalc
        rw [hc, hv, if_neg (by decide), if_pos rfl]
      have e2 : yAri (zI τ 25 4 0) 2 (yPart (qM τ m.toNatClampNeg) f) = qAdd (zI τ 25 4 0) 0 (-(zVal (yPart (qM τ m.toNatClampNeg) f))) := by
        unfold yAri
        rw [if_neg (by decide), if_pos rfl]
      rw [e1, e2]
      exact exR_ok rfl (add_ok w0 (by decide))
    · have e1 : cCalc σ = zA σ 8 (qMu (qR τ) (yPart (qM τ m.toNatClampNeg) f)) := by
        unfold cCalc
        rw [hc, hv, if_neg (by decide), if_neg (by decide), if_pos rfl, mu_ok, hR]
      have e2 : yAri (zI τ 25 4 0) 3 (yPart (qM τ m.toNatClampNeg) f) = zA (zI τ 25 4 0) 27 (qMu (qR τ) (yPart (qM τ m.toNatClampNeg) f)) := by
        unfold yAri
        rw [if_neg (by decide), if_neg (by decide), if_pos rfl]
        rfl
      rw [e1, e2]
      exact exR_ok rfl (pW_R w0 (mu_r h.wR wv))
    · have e1 : cCalc σ = if dvB (qR τ) (yPart (qM τ m.toNatClampNeg) f) then zI σ 7 3 1 else zA σ 8 (qDv (qR τ) (yPart (qM τ m.toNatClampNeg) f)) := by
        unfold cCalc
        rw [hc, hv, if_neg (by decide), if_neg (by decide), if_neg (by decide), dv_ok, hR]
      have e2 : yAri (zI τ 25 4 0) 4 (yPart (qM τ m.toNatClampNeg) f) = if ¬ zMag (qR τ 0) < zMag (yPart (qM τ m.toNatClampNeg) f) then zI (zI τ 25 4 0) 25 3 1 else zA (zI τ 25 4 0) 27 (qDv (qR τ) (yPart (qM τ m.toNatClampNeg) f)) := by
        unfold yAri
        rw [if_neg (by decide), if_neg (by decide), if_neg (by decide), if_pos rfl]
        rfl
      rw [e1, e2]
      by_cases d : zMag (qR τ 0) < zMag (yPart (qM τ m.toNatClampNeg) f)
      · rw [if_neg (fun z => (dvB_ok _ _).mp z d), if_neg (fun z => z d)]
        exact exR_ok rfl (pW_R w0 (dv_r h.wR wv d))
      · rw [if_pos ((dvB_ok _ _).mpr d), if_pos d]
        exact exR_ok rfl (pW_tg w0 (.inr rfl))
  · rw [if_neg (fun z => q (hh.mp z)), tch_no q]
    exact exR_no h rfl
theorem kqL : ∀ n : Fin 64, ¬ Int32.ofNat n.val < 8 → ¬ 23 < Int32.ofNat n.val → (¬ Int32.ofNat n.val < 5 ∧ Int32.ofNat n.val < 24 ∧ Int32.ofNat n.val &&& 7 = r8 (Int32.ofNat n.val)) := by decide +kernel
theorem load_ok (h : pR9 σ τ) (hs : yS τ = 0) (hc : pO σ = c) (hf : pF σ = f) (hm : pA σ = m) (f0 : ¬ f < 0) (f1 : ¬ 63 < f) (c0 : ¬ c < 0) (c1 : ¬ 63 < c) (c8 : ¬ c < 8) (c23 : ¬ 23 < c) : exR (cLoad σ) σ τ (yTch τ c f m) := by
  have hh := has_ok hf hm f0 f1
  unfold cLoad
  by_cases q : yFd5 f ∧ qPlc m
  · rw [if_pos (hh.mpr q)]
    have w0 := pW_S (pW_0 h hs)
    have hv := pV_ok h hf hm f0 f1 q.1
    have wv : wOk (yPart (qM τ m.toNatClampNeg) f) := part_w (h.wM _ (plc_lt q.2)) f
    have hR : pR σ = qR τ := h.R
    obtain ⟨n, rfl⟩ := i64 c0 c1
    obtain ⟨k1, k2, k3⟩ := kqL n c8 c23
    unfold yTch
    rw [if_neg (tch_ok hs q), if_neg k1, hc, hv, k3, zEn_yEn, hR]
    by_cases k : Int32.ofNat n.val < 16
    · rw [if_pos k, if_pos k]
      exact exR_ok rfl (pW_R w0 (en_r h.wR _ wv))
    · rw [if_neg k, if_neg k, if_pos k2]
      exact exR_ok rfl (pW_R w0 (en_r h.wR _ (xor1_w wv)))
  · rw [if_neg (fun z => q (hh.mp z)), tch_no q]
    exact exR_no h rfl
theorem kqS : ∀ n : Fin 64, ¬ Int32.ofNat n.val < 24 → ¬ 33 < Int32.ofNat n.val → (¬ Int32.ofNat n.val < 5 ∧ ¬ Int32.ofNat n.val < 16 ∧ Int32.ofNat n.val < 34 ∧ ((Int32.ofNat n.val < 32 ∧ ¬ 8 < Int32.ofNat n.val - 24 ∧ (Int32.ofNat n.val - 24).toNatClampNeg = (r8 (Int32.ofNat n.val)).toNatClampNeg) ∨ (¬ Int32.ofNat n.val < 32 ∧ Int32.ofNat n.val = 32 ∧ ¬ 8 < Int32.ofNat n.val - 24 ∧ (Int32.ofNat n.val - 24).toNatClampNeg = 8) ∨ (¬ Int32.ofNat n.val < 32 ∧ ¬ Int32.ofNat n.val = 32 ∧ 8 < Int32.ofNat n.val - 24))) := by decide +kernel
theorem stor_ok (h : pR9 σ τ) (hs : yS τ = 0) (hc : pO σ = c) (hf : pF σ = f) (hm : pA σ = m) (f0 : ¬ f < 0) (f1 : ¬ 63 < f) (c0 : ¬ c < 0) (c1 : ¬ 63 < c) (c8 : ¬ c < 24) (c23 : ¬ 33 < c) : exR (cStor σ) σ τ (yTch τ c f m) := by
  have hh := has_ok hf hm f0 f1
  unfold cStor
  by_cases q : yFd5 f ∧ qPlc m
  · rw [if_pos (hh.mpr q)]
    have w0 := pW_S (pW_0 h hs)
    have hR : pR σ = qR τ := h.R
    have hM : pM σ = qM τ := h.M
    have hy : yOkf f := ⟨f0, f1, q.1⟩
    obtain ⟨n, rfl⟩ := i64 c0 c1
    obtain ⟨k1, k2, k3, k4⟩ := kqS n c8 c23
    unfold yTch
    rw [if_neg (tch_ok hs q), if_neg k1, if_neg k2, if_neg c8, if_pos k3, hc, hm, hf, zSto_ok hy, hR, hM]
    have fin : ∀ fr : Int32, exR (some (zA σ 1 (upd (qM τ) m.toNatClampNeg (yPut (qM τ m.toNatClampNeg) f fr)))) σ τ (zA (zI τ 25 4 0) 26 (upd (qM τ) m.toNatClampNeg (yPut (qM τ m.toNatClampNeg) f fr))) := fun fr => exR_ok rfl (pW_M w0 (upd_w h.wM _ (yPut_nn hy (h.wM _ (plc_lt q.2)) fr)))
    rcases k4 with ⟨a, b, e⟩ | ⟨a, a2, b, e⟩ | ⟨a, a2, b⟩
    · rw [if_pos b, if_pos a, e]
      exact fin _
    · rw [if_pos b, if_neg a, if_pos a2, e]
      exact fin _
    · rw [if_neg (fun z => z b), if_neg a, if_neg a2]
      exact fin _
  · rw [if_neg (fun z => q (hh.mp z)), tch_no q]
    exact exR_no h rfl
theorem zCm_ok (x y : Int32) : zCm x y = if x < y then -1 else if y < x then 1 else 0 := by
  unfold zCm
  by_cases a : x < y
  · rw [if_pos a, if_pos a]
  · rw [if_neg a, if_neg a]
    by_cases b : x = y
    · rw [if_pos b, if_neg (by rw [b]; exact Int32.lt_irrefl)]
    · rw [if_neg b, if_pos (by
        rw [Int32.lt_iff_toInt_lt] at a ⊢
        have : ¬ x.toInt = y.toInt := fun e => b (Int32.toInt_inj.mp e)
        omega)]
theorem kqC : ∀ n : Fin 64, 55 < Int32.ofNat n.val → (¬ Int32.ofNat n.val < 5 ∧ ¬ Int32.ofNat n.val < 16 ∧ ¬ Int32.ofNat n.val < 24 ∧ ¬ Int32.ofNat n.val < 34 ∧ (Int32.ofNat n.val - 56).toNatClampNeg = (r8 (Int32.ofNat n.val)).toNatClampNeg) := by decide +kernel
theorem cmp_ok (h : pR9 σ τ) (hs : yS τ = 0) (hc : pO σ = c) (hf : pF σ = f) (hm : pA σ = m) (f0 : ¬ f < 0) (f1 : ¬ 63 < f) (c0 : ¬ c < 0) (c1 : ¬ 63 < c) (c8 : 55 < c) : exR (cCmp σ) σ τ (yTch τ c f m) := by
  have hh := has_ok hf hm f0 f1
  unfold cCmp
  by_cases q : yFd5 f ∧ qPlc m
  · rw [if_pos (hh.mpr q)]
    have w0 := pW_S (pW_0 h hs)
    have hv := pV_ok h hf hm f0 f1 q.1
    have hR : pR σ = qR τ := h.R
    have hy : yOkf f := ⟨f0, f1, q.1⟩
    obtain ⟨n, rfl⟩ := i64 c0 c1
    obtain ⟨k1, k2, k3, k4, k5⟩ := kqC n c8
    unfold yTch
    rw [if_neg (tch_ok hs q), if_neg k1, if_neg k2, if_neg k3, if_neg k4, hv, hc, k5, hf, zFo_ok hy, hR, zCm_ok]
    unfold yCmp
    exact exR_ok rfl (pW_id w0 _)
  · rw [if_neg (fun z => q (hh.mp z)), tch_no q]
    exact exR_no h rfl
end ST
