/-! THE PROCESSOR, the class's: a step -/
def cUse (σ : zS) (op s m t : Int32) : Option zS := if s = -1 then none else (cAct σ op s m).map (fun τ => zA τ 6 (upd (τ.2.2.1 6) s.toNatClampNeg (t + nBusy s.toNatClampNeg)))
abbrev sp208 (as : List Value) (σ : zS) : Option zCs := match as with
  | [.ref 160, .int op, .int s, .int m, .int t] => some (zOp σ (cUse σ op s m t))
  | _ => none
noncomputable def cUnit (σ : zS) : Option zS := if ¬ pO σ < 35 ∧ ¬ 37 < pO σ then cUse σ (pO σ) (zSlot (pF σ)) (pA σ) (σ.1 7 7 + 1) else if zSlot (pF σ) = -1 then none else @cJif σ (zBz (σ.2.2.1 6) (zSlot (pF σ)) (σ.1 7 7 + 1) ↔ pO σ = 34) (Classical.propDecidable _)
abbrev sp163 (as : List Value) (σ : zS) : Option zCs := match as with
  | [.ref 165] => some (zOp σ (cUnit σ))
  | _ => none
abbrev sp160' (as : List Value) (σ : zS) : Option zCs := match as with
  | [.ref 165] => some (zOp σ (cMov σ))
  | _ => none
def dI (w : Int32) : Int32 := (zMag w >>> (12 &&& 31)) &&& 63
def dM (R : Nat → Int32) (w : Int32) : Int32 := if 0 < dI w ∧ ¬ 6 < dI w then zVal (zFo w 2) + zVal (R (dI w).toNatClampNeg) else zVal (zFo w 2)
def dW (R : Nat → Int32) (w : Int32) : Int32 := if 0 < dI w ∧ ¬ 6 < dI w then zOfL (dM R w).toInt64 else zFo w 2
def zDec (σ : zS) (w : Int32) : zS := zI (zI (zI (zI (zI (zI σ 7 10 (zMag w &&& 63)) 7 11 ((zMag w >>> (6 &&& 31)) &&& 63)) 7 12 (dI w)) 7 13 (dM (pR σ) w)) 7 14 (dW (pR σ) w)) 7 9 (σ.1 7 5 + 1)
abbrev sp106 (as : List Value) (σ : zS) : Option zCs := match as with
  | [.ref 165, .int w] => some (zN (zDec σ w))
  | _ => none
abbrev zWt (σ : zS) : Prop := ¬ pO σ < 35 ∧ ¬ 37 < pO σ ∧ zBz (σ.2.2.1 6) (zSlot (pF σ)) (σ.1 7 7 + 1)
abbrev sp107 (as : List Value) (σ : zS) : Option zCs := match as with
  | [.ref 165] => some (zBo σ (zWt σ))
  | _ => none
noncomputable def cExe (σ : zS) : Option zS := if ¬ 4 < pO σ then (if pO σ = 0 then some σ else if zHas σ then some (cCalc σ) else none) else if ¬ 7 < pO σ then (if pO σ = 5 then cConv σ else if pO σ = 6 then cShf σ else cMov σ) else if ¬ 23 < pO σ then cLoad σ else if ¬ 33 < pO σ then cStor σ else if ¬ 38 < pO σ then cUnit σ else if ¬ 47 < pO σ then (if pO σ = 39 then cJump σ else cJreg σ) else if ¬ 55 < pO σ then cChg σ else cCmp σ
abbrev sp108 (as : List Value) (σ : zS) : Option zCs := match as with
  | [.ref 165] => some (zOp σ (cExe σ))
  | _ => none
noncomputable def cGo (τ : zS) : zS := match cExe τ with
  | none => zI τ 7 6 2
  | some υ => zI (zI υ 7 5 (υ.1 7 9)) 7 7 (υ.1 7 7 + 1)
noncomputable def cTry (σ : zS) : zS := if ¬ zPlc (σ.1 7 5) then zI σ 7 6 2 else if zWt (zDec σ (pM σ (σ.1 7 5).toNatClampNeg)) then zI (zI (zDec σ (pM σ (σ.1 7 5).toNatClampNeg)) 7 8 (σ.1 7 8 + 1)) 7 7 (σ.1 7 7 + 1) else if 6 < dI (pM σ (σ.1 7 5).toNatClampNeg) then zI (zDec σ (pM σ (σ.1 7 5).toNatClampNeg)) 7 6 2 else cGo (zDec σ (pM σ (σ.1 7 5).toNatClampNeg))
abbrev sp69 (as : List Value) (σ : zS) : Option zCs := match as with
  | [.ref 165] => some (zN (cTry σ))
  | _ => none
/-- BUSY_STEPS stand in cell 1 -/
abbrev bS (c0 : mH) : Prop := c0[(1 : Nat)]? = some (some (.inl (4, 3, .inl nBusy)))
section PG
variable {c0 : mH} {v5 : Value}
theorem fIal {d n mi m pc a L : Nat} {lv : mL} {st : List Value} {h : mH} {f : Nat → Int32} {i : Int32} {o : Nat × Nat × Nat × Value} {r : mO × mH} (hp : mP' (nCodw v5) mi pc = some (.iaload, o)) (hc : h[a]? = some (some (.inl (4, L, .inl f)))) (hx : zF v5 d n mi m pc lv (.int i :: .ref a :: st) h = some r) : mIn i L = true ∧ zF v5 d n mi m (pc + 1) lv (.int (f i.toNatClampNeg) :: st) h = some r := by
  by_cases hi : mIn i L = true
  · exact ⟨hi, fE hp (eS_ial (k0 := 158) (dflt := nDflt) (o := o) (pc := pc) (lv := lv) (r := st) hc hi) hx⟩
  · exfalso
    cases m with
    | zero => cases hx
    | succ m =>
      unfold zF at hx
      unfold evF at hx
      rw [hp] at hx
      have e1 : mG .iaload o.1 o.2.1 o.2.2.2 (.int i :: .ref a :: st) h = none := by
        unfold mG
        dsimp only
        rw [hc]
        simp [hi]
      simp [mRt, mTh, mNw, mCl, mIv, mNx, mA, mB, mD, mJ, e1, mP, mN] at hx
theorem z208 (h0 : zC0 c0) (hb : bS c0) : zSp c0 v5 208 sp208 := by
  intro d n as σ cs r hs hx
  unfold sp208 at hs
  split at hs
  · rename_i op s m t
    cases hs
    obtain ⟨d', hx⟩ := zGo hx
    replace hx := zTr (C := nC208) (tb := [(224, sp224)]) h0 rfl rfl ⟨z224 h0, trivial⟩ (fun pc => pc.beq 28) 60 hx
    unfold cUse
    rcases hx with ⟨h1, hx⟩ | ⟨h1, _, _, (⟨τ, q, rfl, rfl⟩ | ⟨q, rfl, rfl⟩), hx⟩
    · rw [if_pos (show s = -1 from cEqT h1)]
      exact ⟨_, _, .inr ⟨rfl, rfl, rfl⟩, hx⟩
    · rw [if_neg (show ¬ s = -1 from cEqF h1), q]
      rcases hx with ⟨h2, m', hm, hx⟩ | ⟨h2, hx⟩
      · have hc : (zH c0 τ)[(1 : Nat)]? = some (some (.inl (4, 3, .inl nBusy))) := by
          unfold zH
          rw [List.getElem?_append_left (by rw [h0.1]; decide)]
          exact hb
        obtain ⟨_, hx⟩ := fIal (mP'_ok (show nCodw v5 208 = nC208 from rfl) 28 _ rfl) hc hx
        obtain ⟨_, hx⟩ := zTr (C := nC208) (tb := []) h0 rfl rfl trivial (fun _ => false) 60 hx
        exact ⟨_, _, .inl ⟨_, rfl, rfl, rfl⟩, hx⟩
      · exact absurd (cNeF h2) (by decide)
    · rw [if_neg (show ¬ s = -1 from cEqF h1), q]
      rcases hx with ⟨h2, m', hm, hx⟩ | ⟨h2, hx⟩
      · exact absurd rfl (cNeT h2)
      · exact ⟨_, _, .inr ⟨rfl, rfl, rfl⟩, hx⟩
  · cases hs
theorem z160 (h0 : zC0 c0) : zSp c0 v5 160 sp160' := by
  intro d n as σ cs r hs hx
  unfold sp160' at hs
  split at hs
  · cases hs
    obtain ⟨d', hx⟩ := zGo hx
    have loop : ∀ (m k : Nat), ((k : Int) ≤ (pF σ).toInt ∨ k = 0) → zF v5 d' n 160 m 48 [(2, .int (Int32.ofNat k)), (1, .int (zVal (pR σ 1))), (0, .ref 165)] [] (zH c0 (zA σ 1 (mMv (pM σ) (pA σ) (zVal (pR σ 1)) k))) = some r → r = zOut c0 (.inl (some (.int 1))) (cAdd (zA σ 1 (mMv (pM σ) (pA σ) (zVal (pR σ 1)) (pF σ).toNatClampNeg)) 1 (pF σ)) := by
      intro m
      induction m using Nat.strongRecOn with
      | ind m ih =>
        intro k hk hx
        have hkI : (Int32.ofNat k).toInt = k := Int32.toInt_ofNat_of_lt (by have := Int32.toInt_lt (pF σ); rcases hk with hk | hk <;> omega)
        replace hx := zTr (C := nC160) (tb := [(198, sp198)]) h0 rfl rfl ⟨z198 h0, trivial⟩ (fun pc => pc.beq 48) 60 hx
        rcases hx with ⟨h1, _, _, ⟨rfl, rfl⟩, hx⟩ | ⟨h1, _, _, m', hm, hx⟩
        · have h1 : ¬ (k : Int) < (pF σ).toInt := fun q => cGeT h1 (Int32.lt_iff_toInt_lt.mpr (by rw [hkI]; exact q))
          have e2 : (pF σ).toNatClampNeg = k := by
            show (pF σ).toInt.toNat = k
            omega
          rw [e2]
          exact hx
        · have h1 : (Int32.ofNat k) < pF σ := cGeF h1
          have h1 := Int32.lt_iff_toInt_lt.mp h1
          rw [hkI] at h1
          have h1' : (k : Int) < (pF σ).toInt := h1
          rw [zA_zA] at hx
          have hx : zF v5 d' n 160 m' 48 [(2, .int (Int32.ofNat k + 1)), (1, .int (zVal (pR σ 1))), (0, .ref 165)] [] (zH c0 (zA σ 1 (mMv (pM σ) (pA σ) (zVal (pR σ 1)) (k + 1)))) = some r := hx
          rw [← zOfS] at hx
          exact ih m' (by omega) (k + 1) (.inl (by omega)) hx
    replace hx := zTr (C := nC160) (tb := [(136, sp136), (206, sp206)]) h0 rfl rfl ⟨z136 h0, z206 h0, trivial⟩ (fun pc => pc.beq 48) 60 hx
    unfold cMov
    rcases hx with ⟨h1, _, _, _, ⟨rfl, rfl⟩, _, _, (⟨p, rfl, rfl⟩ | ⟨p, rfl, rfl⟩), hx⟩ | ⟨h1, hx⟩
    · rw [if_neg (cNeT h1)]
      rcases hx with ⟨h2, hx⟩ | ⟨h2, _, _, (⟨q, rfl, rfl⟩ | ⟨q, rfl, rfl⟩), hx⟩
      · exact absurd (cEqT h2) (by decide)
      · rw [if_pos ⟨p, q⟩]
        rcases hx with ⟨h3, m', hm, hx⟩ | ⟨h3, hx⟩
        · refine ⟨_, _, .inl ⟨_, rfl, rfl, rfl⟩, loop m' 0 (.inr rfl) ?_⟩
          · rw [show zA σ 1 (mMv (pM σ) (pA σ) (zVal (pR σ 1)) 0) = σ from zA_self σ 1]
            exact hx
        · exact absurd (cNeF h3) (by decide)
      · rw [if_neg (fun w => q w.2)]
        rcases hx with ⟨h3, m', hm, hx⟩ | ⟨h3, hx⟩
        · exact absurd rfl (cNeT h3)
        · exact ⟨_, _, .inr ⟨rfl, rfl, rfl⟩, hx⟩
    · rw [if_neg (cNeT h1), if_neg (fun w => p w.1)]
      rcases hx with ⟨h2, hx⟩ | ⟨h2, _⟩
      · exact ⟨_, _, .inr ⟨rfl, rfl, rfl⟩, hx⟩
      · exact absurd rfl (cEqF h2)
    · rw [if_pos (cNeF h1)]
      exact ⟨_, _, .inl ⟨_, rfl, rfl, rfl⟩, hx⟩
  · cases hs
theorem z163 (h0 : zC0 c0) (hb : bS c0) : zSp c0 v5 163 sp163 := by
  intro d n as σ cs r hs hx
  unfold sp163 at hs
  split at hs
  · cases hs
    obtain ⟨d', hx⟩ := zGo hx
    replace hx := zTr (C := nC163) (tb := [(155, sp155), (208, sp208)]) h0 rfl rfl ⟨z155 h0, z208 h0 hb, trivial⟩ (fun pc => pc.beq 49) 60 hx
    obtain ⟨_, _, ⟨rfl, rfl⟩, hx⟩ := hx
    have jmp : ¬ (¬ pO σ < 35 ∧ ¬ 37 < pO σ) → ∀ m', zF v5 d' n 163 m' 49 [(1, .int (zSlot (pF σ))), (0, .ref 165)] [] (zH c0 σ) = some r → ∃ o σ', zOp σ (cUnit σ) o σ' ∧ r = zOut c0 o σ' := by
      intro hn m' hx
      unfold cUnit
      rw [if_neg hn]
      have go : ∀ (m' : Nat) (w : Int32), (pO σ = 34 ∧ w = 1 ∨ ¬ pO σ = 34 ∧ w = 0) → zF v5 d' n 163 m' 64 [(2, .int w), (1, .int (zSlot (pF σ))), (0, .ref 165)] [] (zH c0 σ) = some r → ∃ o σ', zOp σ (if zSlot (pF σ) = -1 then none else @cJif σ (zBz (σ.2.2.1 6) (zSlot (pF σ)) (σ.1 7 7 + 1) ↔ pO σ = 34) (Classical.propDecidable _)) o σ' ∧ r = zOut c0 o σ' := by
        intro m' w hw hx
        replace hx := zTr (C := nC163) (tb := [(156, sp156), (209, sp209)]) h0 rfl rfl ⟨z156 h0, z209 h0, trivial⟩ (fun _ => false) 60 hx
        rcases hx with ⟨h1, hx⟩ | ⟨h1, hx⟩
        · rw [if_pos (show zSlot (pF σ) = -1 from cEqT h1)]
          exact ⟨_, _, .inr ⟨rfl, rfl, rfl⟩, hx⟩
        · rw [if_neg (show ¬ zSlot (pF σ) = -1 from cEqF h1)]
          unfold cJif
          obtain ⟨_, _, (⟨p, rfl, rfl⟩ | ⟨p, rfl, rfl⟩), hx⟩ := hx
          all_goals
            rcases hx with ⟨h2, _, _, (⟨a, rfl, rfl⟩ | ⟨a, b, rfl, rfl⟩ | ⟨a, b, rfl, rfl⟩), hx⟩ | ⟨h2, _, _, (⟨a, rfl, rfl⟩ | ⟨a, b, rfl, rfl⟩ | ⟨a, b, rfl, rfl⟩), hx⟩
            · rw [if_neg (by
                rcases hw with ⟨e1, e2⟩ | ⟨e1, e2⟩
                · first
                    | exact fun q => p (q.mpr e1)
                    | exact absurd e2.symm (cNeT h2)
                · first
                    | exact fun q => e1 (q.mp p)
                    | exact absurd e2.symm (cNeT h2))]
              rcases hx with ⟨h3, hx⟩ | ⟨h3, hx⟩
              · exact absurd (cEqT h3) (by decide)
              · exact ⟨_, _, .inl ⟨_, rfl, rfl, rfl⟩, hx⟩
            · exact absurd rfl a
            · exact absurd rfl a
            · exact absurd (by decide) a
            · rw [if_pos (by
                rcases hw with ⟨e1, e2⟩ | ⟨e1, e2⟩
                · first
                    | exact ⟨fun _ => e1, fun _ => p⟩
                    | (rw [e2] at h2; exact absurd (cNeF h2) (by decide))
                · first
                    | exact ⟨fun q => absurd q p, fun q => absurd q e1⟩
                    | (rw [e2] at h2; exact absurd (cNeF h2) (by decide))), if_pos (show zPlc (pA σ) from b)]
              rcases hx with ⟨h3, hx⟩ | ⟨h3, hx⟩
              · exact absurd (cEqT h3) (by decide)
              · exact ⟨_, _, .inl ⟨_, rfl, rfl, rfl⟩, hx⟩
            · rw [if_pos (by
                rcases hw with ⟨e1, e2⟩ | ⟨e1, e2⟩
                · first
                    | exact ⟨fun _ => e1, fun _ => p⟩
                    | (rw [e2] at h2; exact absurd (cNeF h2) (by decide))
                · first
                    | exact ⟨fun q => absurd q p, fun q => absurd q e1⟩
                    | (rw [e2] at h2; exact absurd (cNeF h2) (by decide))), if_neg (show ¬ zPlc (pA σ) from b)]
              rcases hx with ⟨h3, hx⟩ | ⟨h3, hx⟩
              · exact ⟨_, _, .inr ⟨rfl, rfl, rfl⟩, hx⟩
              · exact absurd rfl (cEqF h3)
      replace hx := zTr (C := nC163) (tb := []) h0 rfl rfl trivial (fun pc => pc.beq 64) 60 hx
      rcases hx with ⟨h1, m2, hm, hx⟩ | ⟨h1, m2, hm, hx⟩
      · exact go m2 0 (.inr ⟨cNeT h1, rfl⟩) hx
      · exact go m2 1 (.inl ⟨cNeF h1, rfl⟩) hx
    rcases hx with ⟨h1, m', hm, hx⟩ | ⟨h1, ⟨h2, m', hm, hx⟩ | ⟨h2, hx⟩⟩
    · exact jmp (fun q => q.1 (cLtT h1)) m' hx
    · exact jmp (fun q => q.2 (cGtT h2)) m' hx
    · unfold cUnit
      rw [if_pos ⟨cLtF h1, cGtF h2⟩]
      obtain ⟨_, _, (⟨τ, q, rfl, rfl⟩ | ⟨q, rfl, rfl⟩), hx⟩ := hx
      · exact ⟨_, _, .inl ⟨_, q, rfl, rfl⟩, hx⟩
      · exact ⟨_, _, .inr ⟨q, rfl, rfl⟩, hx⟩
  · cases hs
theorem zI_2 (σ : zS) (a b c d : Int32) : zI (zI (zI (zI σ 7 13 a) 7 14 b) 7 13 c) 7 14 d = zI (zI σ 7 13 c) 7 14 d := by
  unfold zI
  congr 1
  funext k i
  unfold u2
  show (bif (k.beq 7 && i.beq 14) then d else bif (k.beq 7 && i.beq 13) then c else bif (k.beq 7 && i.beq 14) then b else bif (k.beq 7 && i.beq 13) then a else σ.1 k i) = (bif (k.beq 7 && i.beq 14) then d else bif (k.beq 7 && i.beq 13) then c else σ.1 k i)
  cases (k.beq 7 && i.beq 14) <;> cases (k.beq 7 && i.beq 13) <;> rfl
theorem z106 (h0 : zC0 c0) : zSp c0 v5 106 sp106 := by
  intro d n as σ cs r hs hx
  unfold sp106 at hs
  split at hs
  · rename_i w
    cases hs
    obtain ⟨d', hx⟩ := zGo hx
    replace hx := zTr (C := nC106) (tb := [(138, sp138), (154, sp154), (136, sp136), (86, sp86)]) h0 rfl rfl ⟨z138 h0, z154 h0, z136 h0, z86 h0, trivial⟩ (fun _ => false) 80 hx
    refine ⟨_, _, ⟨rfl, rfl⟩, ?_⟩
    obtain ⟨_, _, ⟨rfl, rfl⟩, _, _, ⟨rfl, rfl⟩, _, _, ⟨rfl, rfl⟩, hx⟩ := hx
    unfold zDec dW dM
    rcases hx with ⟨h1, hx⟩ | ⟨h1, ⟨h2, hx⟩ | ⟨h2, hx⟩⟩
    · have hn : ¬ (0 < dI w ∧ ¬ 6 < dI w) := fun q => cLeT h1 q.1
      rw [if_neg hn, if_neg hn]
      exact hx
    · have hn : ¬ (0 < dI w ∧ ¬ 6 < dI w) := fun q => q.2 (cGtT h2)
      rw [if_neg hn, if_neg hn]
      exact hx
    · have hn : 0 < dI w ∧ ¬ 6 < dI w := ⟨cLeF h1, cGtF h2⟩
      rw [if_pos hn, if_pos hn]
      obtain ⟨_, _, _, ⟨rfl, rfl⟩, _, _, ⟨rfl, rfl⟩, hx⟩ := hx
      refine Eq.trans (show r = zOut c0 (.inl none) (zI (zI (zI (zI (zI (zI (zI (zI σ 7 10 (zMag w &&& 63)) 7 11 ((zMag w >>> (6 &&& 31)) &&& 63)) 7 12 (dI w)) 7 13 (zVal (zFo w 2))) 7 14 (zFo w 2)) 7 13 (zVal (zFo w 2) + zVal (pR σ (dI w).toNatClampNeg))) 7 14 (zOfL (zVal (zFo w 2) + zVal (pR σ (dI w).toNatClampNeg)).toInt64)) 7 9 (σ.1 7 5 + 1)) from hx) ?_
      rw [zI_2]
  · cases hs
theorem z107 (h0 : zC0 c0) : zSp c0 v5 107 sp107 := by
  intro d n as σ cs r hs hx
  unfold sp107 at hs
  split at hs
  · cases hs
    obtain ⟨d', hx⟩ := zGo hx
    replace hx := zTr (C := nC107) (tb := [(155, sp155), (156, sp156)]) h0 rfl rfl ⟨z155 h0, z156 h0, trivial⟩ (fun _ => false) 80 hx
    rcases hx with ⟨h1, hx⟩ | ⟨h1, ⟨h2, hx⟩ | ⟨h2, _, _, ⟨rfl, rfl⟩, _, _, (⟨p, rfl, rfl⟩ | ⟨p, rfl, rfl⟩), hx⟩⟩
    · exact ⟨_, _, .inr ⟨fun q => q.1 (cLtT h1), rfl, rfl⟩, hx⟩
    · exact ⟨_, _, .inr ⟨fun q => q.2.1 (cGtT h2), rfl, rfl⟩, hx⟩
    · rcases hx with ⟨h3, hx⟩ | ⟨h3, hx⟩
      · exact absurd (cEqT h3) (by decide)
      · exact ⟨_, _, .inl ⟨⟨cLtF h1, cGtF h2, p⟩, rfl, rfl⟩, hx⟩
    · rcases hx with ⟨h3, hx⟩ | ⟨h3, hx⟩
      · exact ⟨_, _, .inr ⟨fun q => p q.2.2, rfl, rfl⟩, hx⟩
      · exact absurd rfl (cEqF h3)
  · cases hs
theorem z108 (h0 : zC0 c0) (hb : bS c0) : zSp c0 v5 108 sp108 := by
  intro d n as σ cs r hs hx
  unfold sp108 at hs
  split at hs
  · cases hs
    obtain ⟨d', hx⟩ := zGo hx
    replace hx := zTr (C := nC108) (tb := [(157, sp157), (158, sp158), (159, sp159), (160, sp160'), (161, sp161), (162, sp162), (163, sp163), (164, sp164), (165, sp165), (166, sp166), (167, sp167)]) h0 rfl rfl ⟨z157 h0, z158 h0, z159 h0, z160 h0, z161 h0, z162 h0, z163 h0 hb, z164 h0, z165 h0, z166 h0, z167 h0, trivial⟩ (fun _ => false) 80 hx
    have fin : ∀ {x : Option zS}, (∃ o σ', zOp σ x o σ' ∧ (match o with
        | .inl v => (match v with
          | some w => r = zOut c0 (.inl (some w)) σ'
          | none => True)
        | .inr _ => True)) → ∃ o σ', zOp σ x o σ' ∧ r = zOut c0 o σ' := by
      intro x ⟨o, σ', q, hx⟩
      rcases q with ⟨τ, q, rfl, rfl⟩ | ⟨q, rfl, rfl⟩
      · exact ⟨_, _, .inl ⟨_, q, rfl, rfl⟩, hx⟩
      · exact ⟨_, _, .inr ⟨q, rfl, rfl⟩, hx⟩
    unfold cExe
    rcases hx with ⟨h1, hx⟩ | ⟨h1, hx⟩
    · rw [if_neg (show ¬ ¬ 4 < pO σ from fun q => q (cGtT h1))]
      rcases hx with ⟨h2, hx⟩ | ⟨h2, hx⟩
      · rw [if_neg (show ¬ ¬ 7 < pO σ from fun q => q (cGtT h2))]
        rcases hx with ⟨h3, hx⟩ | ⟨h3, hx⟩
        · rw [if_neg (show ¬ ¬ 23 < pO σ from fun q => q (cGtT h3))]
          rcases hx with ⟨h4, hx⟩ | ⟨h4, hx⟩
          · rw [if_neg (show ¬ ¬ 33 < pO σ from fun q => q (cGtT h4))]
            rcases hx with ⟨h5, hx⟩ | ⟨h5, hx⟩
            · rw [if_neg (show ¬ ¬ 38 < pO σ from fun q => q (cGtT h5))]
              rcases hx with ⟨h6, hx⟩ | ⟨h6, hx⟩
              · rw [if_neg (show ¬ ¬ 47 < pO σ from fun q => q (cGtT h6))]
                rcases hx with ⟨h7, hx⟩ | ⟨h7, hx⟩
                · rw [if_neg (show ¬ ¬ 55 < pO σ from fun q => q (cGtT h7))]
                  obtain ⟨_, _, (⟨τ, q, rfl, rfl⟩ | ⟨q, rfl, rfl⟩), hx⟩ := hx
                  · exact ⟨_, _, .inl ⟨_, q, rfl, rfl⟩, hx⟩
                  · exact ⟨_, _, .inr ⟨q, rfl, rfl⟩, hx⟩
                · rw [if_pos (show ¬ 55 < pO σ from cGtF h7)]
                  obtain ⟨_, _, (⟨τ, q, rfl, rfl⟩ | ⟨q, rfl, rfl⟩), hx⟩ := hx
                  · exact ⟨_, _, .inl ⟨_, q, rfl, rfl⟩, hx⟩
                  · exact ⟨_, _, .inr ⟨q, rfl, rfl⟩, hx⟩
              · rw [if_pos (show ¬ 47 < pO σ from cGtF h6)]
                rcases hx with ⟨h7, hx⟩ | ⟨h7, hx⟩
                · rw [if_neg (show ¬ pO σ = 39 from cNeT h7)]
                  obtain ⟨_, _, (⟨τ, q, rfl, rfl⟩ | ⟨q, rfl, rfl⟩), hx⟩ := hx
                  · exact ⟨_, _, .inl ⟨_, q, rfl, rfl⟩, hx⟩
                  · exact ⟨_, _, .inr ⟨q, rfl, rfl⟩, hx⟩
                · rw [if_pos (show pO σ = 39 from cNeF h7)]
                  obtain ⟨_, _, (⟨τ, q, rfl, rfl⟩ | ⟨q, rfl, rfl⟩), hx⟩ := hx
                  · exact ⟨_, _, .inl ⟨_, q, rfl, rfl⟩, hx⟩
                  · exact ⟨_, _, .inr ⟨q, rfl, rfl⟩, hx⟩
            · rw [if_pos (show ¬ 38 < pO σ from cGtF h5)]
              obtain ⟨_, _, (⟨τ, q, rfl, rfl⟩ | ⟨q, rfl, rfl⟩), hx⟩ := hx
              · exact ⟨_, _, .inl ⟨_, q, rfl, rfl⟩, hx⟩
              · exact ⟨_, _, .inr ⟨q, rfl, rfl⟩, hx⟩
          · rw [if_pos (show ¬ 33 < pO σ from cGtF h4)]
            obtain ⟨_, _, (⟨τ, q, rfl, rfl⟩ | ⟨q, rfl, rfl⟩), hx⟩ := hx
            · exact ⟨_, _, .inl ⟨_, q, rfl, rfl⟩, hx⟩
            · exact ⟨_, _, .inr ⟨q, rfl, rfl⟩, hx⟩
        · rw [if_pos (show ¬ 23 < pO σ from cGtF h3)]
          obtain ⟨_, _, (⟨τ, q, rfl, rfl⟩ | ⟨q, rfl, rfl⟩), hx⟩ := hx
          · exact ⟨_, _, .inl ⟨_, q, rfl, rfl⟩, hx⟩
          · exact ⟨_, _, .inr ⟨q, rfl, rfl⟩, hx⟩
      · rw [if_pos (show ¬ 7 < pO σ from cGtF h2)]
        rcases hx with ⟨h3, hx⟩ | ⟨h3, hx⟩
        · rw [if_neg (show ¬ pO σ = 5 from cNeT h3)]
          rcases hx with ⟨h4, hx⟩ | ⟨h4, hx⟩
          · rw [if_neg (show ¬ pO σ = 6 from cNeT h4)]
            obtain ⟨_, _, (⟨τ, q, rfl, rfl⟩ | ⟨q, rfl, rfl⟩), hx⟩ := hx
            · exact ⟨_, _, .inl ⟨_, q, rfl, rfl⟩, hx⟩
            · exact ⟨_, _, .inr ⟨q, rfl, rfl⟩, hx⟩
          · rw [if_pos (show pO σ = 6 from cNeF h4)]
            obtain ⟨_, _, (⟨τ, q, rfl, rfl⟩ | ⟨q, rfl, rfl⟩), hx⟩ := hx
            · exact ⟨_, _, .inl ⟨_, q, rfl, rfl⟩, hx⟩
            · exact ⟨_, _, .inr ⟨q, rfl, rfl⟩, hx⟩
        · rw [if_pos (show pO σ = 5 from cNeF h3)]
          obtain ⟨_, _, (⟨τ, q, rfl, rfl⟩ | ⟨q, rfl, rfl⟩), hx⟩ := hx
          · exact ⟨_, _, .inl ⟨_, q, rfl, rfl⟩, hx⟩
          · exact ⟨_, _, .inr ⟨q, rfl, rfl⟩, hx⟩
    · rw [if_pos (show ¬ 4 < pO σ from cGtF h1)]
      rcases hx with ⟨h2, hx⟩ | ⟨h2, hx⟩
      · rw [if_pos (show pO σ = 0 from cEqT h2)]
        exact ⟨_, _, .inl ⟨_, rfl, rfl, rfl⟩, hx⟩
      · rw [if_neg (show ¬ pO σ = 0 from cEqF h2)]
        obtain ⟨_, _, (⟨τ, q, rfl, rfl⟩ | ⟨q, rfl, rfl⟩), hx⟩ := hx
        · rcases hx with ⟨h3, hx⟩ | ⟨h3, hx⟩
          · exact absurd (cEqT h3) (by decide)
          · exact ⟨_, _, .inl ⟨_, q, rfl, rfl⟩, hx⟩
        · rcases hx with ⟨h3, hx⟩ | ⟨h3, hx⟩
          · exact ⟨_, _, .inr ⟨q, rfl, rfl⟩, hx⟩
          · exact absurd rfl (cEqF h3)
  · cases hs
theorem z69 (h0 : zC0 c0) (hb : bS c0) : zSp c0 v5 69 sp69 := by
  intro d n as σ cs r hs hx
  unfold sp69 at hs
  split at hs
  · cases hs
    obtain ⟨d', hx⟩ := zGo hx
    replace hx := zTr (C := nC69) (tb := [(76, sp76), (106, sp106), (107, sp107), (108, sp108)]) h0 rfl rfl ⟨z76 h0, z106 h0, z107 h0, z108 h0 hb, trivial⟩ (fun _ => false) 80 hx
    refine ⟨_, _, ⟨rfl, rfl⟩, ?_⟩
    unfold cTry
    obtain ⟨_, _, (⟨p, rfl, rfl⟩ | ⟨p, rfl, rfl⟩), hx⟩ := hx
    · rw [if_neg (show ¬ ¬ zPlc (σ.1 7 5) from fun q => q p)]
      rcases hx with ⟨h1, _, _, _, ⟨rfl, rfl⟩, _, _, (⟨q, rfl, rfl⟩ | ⟨q, rfl, rfl⟩), hx⟩ | ⟨h1, _⟩
      · rw [if_pos q]
        rcases hx with ⟨h2, hx⟩ | ⟨h2, hx⟩
        · exact absurd (cEqT h2) (by decide)
        · exact hx
      · rw [if_neg q]
        rcases hx with ⟨h2, hx⟩ | ⟨h2, hx⟩
        · rcases hx with ⟨h3, hx⟩ | ⟨h3, _, _, (⟨τ, e, rfl, rfl⟩ | ⟨e, rfl, rfl⟩), hx⟩
          · rw [if_pos (show 6 < dI (pM σ (σ.1 7 5).toNatClampNeg) from cGtT h3)]
            exact hx
          · rw [if_neg (show ¬ 6 < dI (pM σ (σ.1 7 5).toNatClampNeg) from cGtF h3)]
            unfold cGo
            rw [e]
            rcases hx with ⟨h4, hx⟩ | ⟨h4, hx⟩
            · exact hx
            · exact absurd (cNeF h4) (by decide)
          · rw [if_neg (show ¬ 6 < dI (pM σ (σ.1 7 5).toNatClampNeg) from cGtF h3)]
            unfold cGo
            rw [e]
            rcases hx with ⟨h4, hx⟩ | ⟨h4, hx⟩
            · exact absurd rfl (cNeT h4)
            · exact hx
        · exact absurd rfl (cEqF h2)
      · exact absurd (cNeF h1) (by decide)
    · rw [if_pos p]
      rcases hx with ⟨h1, _⟩ | ⟨h1, hx⟩
      · exact absurd rfl (cNeT h1)
      · exact hx
  · cases hs
end PG
