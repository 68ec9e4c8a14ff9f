/-! ONE STEP on both sides -/
/-- the reference's step, and whether it was done -/
noncomputable def yTr (τ : zS) : zS := if ¬ qPlc (τ.1 25 6) then zI (zI τ 25 4 1) 25 10 2 else if qWtg τ (yW τ) then zI (zI (zI τ 25 4 0) 25 8 (τ.1 25 8 + 1)) 25 9 (τ.1 25 9 + 1) else if 6 < dI (yW τ) then zI (zI τ 25 4 1) 25 10 2 else if ¬ yS (yUp τ) = 0 then zI (yUp τ) 25 10 2 else zI (zI (yUp τ) 25 6 ((yUp τ).1 25 7)) 25 8 ((yUp τ).1 25 8 + 1)
def ySu (τ : zS) : Prop := qPlc (τ.1 25 6) ∧ (qWtg τ (yW τ) ∨ (¬ 6 < dI (yW τ) ∧ yS (yUp τ) = 0))
section ST
variable {σ τ : zS}
theorem cFr_dec (σ : zS) (w : Int32) : cFr σ (zDec σ w) := cFr_I (cFr_I (cFr_I (cFr_I (cFr_I (cFr_I (cFr_r σ) (by decide)) (by decide)) (by decide)) (by decide)) (by decide)) (by decide)
theorem wt_ok {w : Int32} (h : pQ σ τ) (hsd : 0 ≤ (σ.1 7 7).toInt ∧ (σ.1 7 7).toInt < 2000000000) : zWt (zDec σ w) ↔ qWtg τ w := by
  show (¬ eC0 w < 35 ∧ ¬ 37 < eC0 w ∧ zBz (σ.2.2.1 6) (zSlot (eF0 w)) (σ.1 7 7 + 1)) ↔ ((¬ eC0 w < 35 ∧ ¬ 37 < eC0 w) ∧ ¬ zSlot (eF0 w) < 0 ∧ yBz τ (zSlot (eF0 w)))
  have hb : ¬ zSlot (eF0 w) = -1 → (zBz (σ.2.2.1 6) (zSlot (eF0 w)) (σ.1 7 7 + 1) ↔ yBz τ (zSlot (eF0 w))) := fun q => bz_ok (τ := zI τ 25 7 (σ.1 7 9)) h hsd q
  by_cases k : zSlot (eF0 w) = -1
  · constructor
    · intro q
      exact absurd k q.2.2.1
    · intro q
      exact absurd (show zSlot (eF0 w) < 0 by rw [k]; decide) q.2.1
  · have k0 : ¬ zSlot (eF0 w) < 0 := by
      rcases slot_cs (eF0 w) with e | e | e | e
      · rw [e]; decide
      · rw [e]; decide
      · rw [e]; decide
      · exact absurd e k
    rw [hb k]
    exact ⟨fun q => ⟨⟨q.1, q.2.1⟩, k0, q.2.2⟩, fun q => ⟨q.1.1, q.1.2, q.2.2⟩⟩
theorem try_ok (h : pQ σ τ) (hsd : 0 ≤ (σ.1 7 7).toInt ∧ (σ.1 7 7).toInt < 2000000000) (hl : (σ.1 2 8).toInt < 2000000000) : pQ (cTry σ) (yTr τ) ∧ cFr σ (cTry σ) ∧ qFr τ (yTr τ) ∧ ((ySu τ ∧ (cTry σ).1 7 7 = σ.1 7 7 + 1 ∧ ((cTry σ).1 2 8 = σ.1 2 8 ∨ (cTry σ).1 2 8 = σ.1 2 8 + 1)) ∨ (¬ ySu τ ∧ (cTry σ).1 7 7 = σ.1 7 7 ∧ (cTry σ).1 2 8 = σ.1 2 8 ∧ (cTry σ).1 7 6 = 2)) := by
  have hpl : σ.1 7 5 = τ.1 25 6 := h.pl
  have hM : pM σ = qM τ := h.M
  have hR : pR σ = qR τ := h.R
  unfold cTry yTr ySu
  by_cases p : qPlc (τ.1 25 6)
  · have pz : zPlc (σ.1 7 5) := by
      rw [hpl]
      exact (zPlc_q _).mpr p
    have ew : pM σ (σ.1 7 5).toNatClampNeg = yW τ := by
      show pM σ (σ.1 7 5).toNatClampNeg = qM τ (τ.1 25 6).toNatClampNeg
      rw [hM, hpl]
    have hw : wOk (yW τ) := h.wM _ (plc_lt p)
    rw [if_neg (show ¬ ¬ zPlc (σ.1 7 5) from fun z => z pz), if_neg (show ¬ ¬ qPlc (τ.1 25 6) from fun z => z p), ew]
    by_cases wt : qWtg τ (yW τ)
    · rw [if_pos ((wt_ok h hsd).mpr wt), if_pos wt]
      refine ⟨?_, cFr_I (cFr_I (cFr_dec σ _) (by decide)) (by decide), qFr_I (qFr_I (qFr_I (qFr_r τ) (by decide)) (by decide)) (by decide), .inl ⟨⟨p, .inl wt⟩, rfl, .inl rfl⟩⟩
      exact pR9.mk h.M h.R h.tg h.id h.pl h.st (congrArg (· + 1) (show σ.1 7 7 = τ.1 25 8 from h.sd)) (congrArg (· + 1) (show σ.1 7 8 = τ.1 25 9 from h.sw)) h.tp h.bk h.un rfl h.cr h.li h.wM h.wR h.wT h.wC h.tb h.bb h.sb
    · rw [if_neg (fun z => wt ((wt_ok h hsd).mp z)), if_neg wt]
      by_cases d : 6 < dI (yW τ)
      · rw [if_pos d, if_pos d]
        refine ⟨?_, cFr_I (cFr_dec σ _) (by decide), qFr_I (qFr_I (qFr_r τ) (by decide)) (by decide), .inr ⟨fun z => z.2.elim wt (fun z => z.1 d), rfl, rfl, rfl⟩⟩
        exact pR9.mk h.M h.R h.tg h.id h.pl rfl h.sd h.sw h.tp h.bk h.un rfl h.cr h.li h.wM h.wR h.wT h.wC h.tb h.bb (show (0 : Int) ≤ (2 : Int32).toInt by decide)
      · rw [if_neg d, if_neg d]
        obtain ⟨a1, a2, a3⟩ := adr_ok (R := qR τ) hw h.wR d
        have h' : pR9 (zDec σ (yW τ)) (zI (zI τ 25 4 0) 25 7 (τ.1 25 6 + 1)) := pR9.mk h.M h.R h.tg h.id h.pl h.st h.sd h.sw h.tp h.bk h.un (congrArg (· + 1) hpl) h.cr h.li h.wM h.wR h.wT h.wC h.tb h.bb h.sb
        have hm : pA (zDec σ (yW τ)) = eM (qR τ) (yW τ) := by
          show dM (pR σ) (yW τ) = _
          rw [hR, a1]
        have hW : (zDec σ (yW τ)).1 7 14 = 2 * (if eM (qR τ) (yW τ) < 0 then -(eM (qR τ) (yW τ)) else eM (qR τ) (yW τ)) + (if eG (qR τ) (yW τ) then 1 else 0) := by
          show dW (pR σ) (yW τ) = _
          rw [hR, a3]
        have pi := qPlc_int.mp p
        have ex := exe_ok (σ := zDec σ (yW τ)) (τ := zI (zI τ 25 4 0) 25 7 (τ.1 25 6 + 1)) (c := eC0 (yW τ)) (f := eF0 (yW τ)) (m := eM (qR τ) (yW τ)) (g := if eG (qR τ) (yW τ) then 1 else 0) h' rfl rfl rfl hm (n63_b _).1 (n63_b _).2 (n63_b _).1 (n63_b _).2 a2 (b01 _) hW rfl (by rw [← hpl] at pi; exact pi) hsd hl
        have ey : yOpr (zI (zI τ 25 4 0) 25 7 (τ.1 25 6 + 1)) (eC0 (yW τ)) (eF0 (yW τ)) (eM (qR τ) (yW τ)) (if eG (qR τ) (yW τ) then 1 else 0) = yUp τ := rfl
        rw [ey] at ex
        have qf : qFr τ (zI (zI τ 25 4 0) 25 7 (τ.1 25 6 + 1)) := qFr_I (qFr_I (qFr_r τ) (by decide)) (by decide)
        rcases ex with ⟨b1, b2, b3, b4⟩ | ⟨σ2, b1, b2⟩
        · rw [if_pos b2]
          have eg : cGo (zDec σ (yW τ)) = zI (zDec σ (yW τ)) 7 6 2 := by
            unfold cGo
            rw [b1]
          rw [eg]
          refine ⟨?_, cFr_I (cFr_dec σ _) (by decide), qFr_I (qFr_t qf b4) (by decide), .inr ⟨fun z => z.2.elim wt (fun z => b2 z.2), rfl, rfl, rfl⟩⟩
          exact pR9.mk b3.M b3.R b3.tg b3.id b3.pl rfl b3.sd b3.sw b3.tp b3.bk b3.un rfl b3.cr b3.li b3.wM b3.wR b3.wT b3.wC b3.tb b3.bb (show (0 : Int) ≤ (2 : Int32).toInt by decide)
        · have b3 := b2.1
          rw [if_neg (fun z => z b2.2.2.2.2.2)]
          have eg : cGo (zDec σ (yW τ)) = zI (zI σ2 7 5 (σ2.1 7 9)) 7 7 (σ2.1 7 7 + 1) := by
            unfold cGo
            rw [b1]
          rw [eg]
          refine ⟨?_, cFr_I (cFr_I (cFr_t (cFr_dec σ _) b2.2.1) (by decide)) (by decide), qFr_I (qFr_I (qFr_t qf b2.2.2.1) (by decide)) (by decide), .inl ⟨⟨p, .inr ⟨d, b2.2.2.2.2.2⟩⟩, congrArg (· + 1) (show σ2.1 7 7 = σ.1 7 7 from b2.2.2.2.1), b2.2.2.2.2.1⟩⟩
          exact pR9.mk b3.M b3.R b3.tg b3.id b3.nx b3.st (congrArg (· + 1) (show σ2.1 7 7 = (yUp τ).1 25 8 from b3.sd)) b3.sw b3.tp b3.bk b3.un rfl b3.cr b3.li b3.wM b3.wR b3.wT b3.wC b3.tb b3.bb b3.sb
  · have pz : ¬ zPlc (σ.1 7 5) := by
      rw [hpl]
      exact fun z => p ((zPlc_q _).mp z)
    rw [if_pos pz, if_pos p]
    refine ⟨?_, cFr_I (cFr_r σ) (by decide), qFr_I (qFr_I (qFr_r τ) (by decide)) (by decide), .inr ⟨fun z => p z.1, rfl, rfl, rfl⟩⟩
    exact pR9.mk h.M h.R h.tg h.id h.pl rfl h.sd h.sw h.tp h.bk h.un rfl h.cr h.li h.wM h.wR h.wT h.wC h.tb h.bb (show (0 : Int) ≤ (2 : Int32).toInt by decide)
end ST
