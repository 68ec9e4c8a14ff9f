/-! A RUN IS SOUND: loops by their growing number, and all steps -/
theorem rSpl_len {v : Value} : ∀ {ps : List Int} {fs g : rF}, g ∈ rSpl fs v ps → g.length = fs.length
  | [], fs, g, h => by rw [List.mem_singleton.mp h]
  | p :: ps, fs, g, h => by
    unfold rSpl at h
    rcases List.mem_append.mp h with h | h
    · split at h
      · rename_i k hk
        rw [List.mem_singleton.mp h]
        exact rCut_len hk
      · cases h
    · split at h
      · rename_i k hk
        rw [rSpl_len h, rCut_len hk]
      · cases h
section LP
variable {c0 : mH} {ρ0 : List Int} {O : List rR} {E : Nat → Nat → mL → List Value → mH → Option (mO × mH)}
theorem rLoop_ok {ρ : List Int} {s t : rT} {lp : rLp} {vs : List Value} {ve : List Int} {lc : mL} {hc : mH} (hO : rOk ρ s.1) (hve : rVs ρ vs = some ve) (ht : t.1 = s.1 ++ rBds vs lp.1) (h0 : rIn0 s.1 s.1.length vs vs lp.1 = true) (ha : rAc s.1 lp vs = true) (hre : rRe c0 (ρ ++ ve) t lc hc)
    (hbody : ∀ zs lc hc, rOk (ρ ++ zs) t.1 → rRe c0 (ρ ++ zs) t lc hc → rK c0 ρ0 O E (s.2.1, t, lp, s.1.length) (ρ ++ zs) → rAns c0 ρ0 O E s.2.1 lc [] hc) : rAns c0 ρ0 O E s.2.1 lc [] hc := by
  unfold rAc at ha
  rw [Bool.and_eq_true, decide_eq_true_eq] at ha
  obtain ⟨hg, ha⟩ := ha
  split at ha
  · rename_i pr wv hpr hwv
    split at ha
    · rename_i q0 hq0
      simp only [Bool.and_eq_true, List.all_eq_true, Bool.or_eq_true, beq_iff_eq] at ha
      obtain ⟨⟨hm, -⟩, hacc⟩ := ha
      have hlen := rIn0_len h0
      have hbl := rBds_len hlen
      have hdrop : t.1.drop s.1.length = rBds vs lp.1 := by rw [ht, List.drop_left]
      obtain ⟨vr, vr1, vr2⟩ := rVs_get hve hwv
      have hvr := rRa_ok hO (rRg_a hq0) vr2
      have hmn : ¬ pr.2.2.2.2.2.1 = 2 := by omega
      have hk : ∀ p ∈ lp.1, p.2.2.2.2.2.1 = 2 → 0 ≤ p.2.2.2.2.2.2 ∧ p.2.2.2.2.2.2 * (pr.2.2.2.2.1 - q0.1) ≤ p.2.2.2.2.1 := fun p hp hm2 => by
        have := hacc p hp
        rw [if_pos hm2, Bool.and_eq_true, decide_eq_true_eq, decide_eq_true_eq] at this
        exact this
      have hkz : ∀ p ∈ lp.1.zip (rBds vs lp.1), p.1.2.2.2.2.2.1 = 2 → 0 ≤ p.1.2.2.2.2.2.2 := fun p hp hm2 => (hk p.1 (List.of_mem_zip hp).1 hm2).1
      have hr : lp.2.2.1.1 < lp.1.length := (List.getElem?_eq_some_iff.mp hpr).1
      have hzr : (lp.1.zip (rBds vs lp.1))[lp.2.2.1.1]? = some (pr, rBd wv pr) := by
        have e1 : (rBds vs lp.1)[lp.2.2.1.1]? = some (rBd wv pr) := by
          have : lp.2.2.1.1 < (rBds vs lp.1).length := by omega
          obtain ⟨v', p', k1, k2, k3⟩ := rBds_get (List.getElem?_eq_getElem this)
          rw [hwv] at k1
          rw [hpr] at k2
          cases k1
          cases k2
          rw [List.getElem?_eq_getElem this, k3]
        rw [List.getElem?_zip_eq_some]
        exact ⟨hpr, e1⟩
      have hup : (rBd wv pr).2 = pr.2.2.2.2.1 := by
        rcases hm with hm | hm
        · rw [rBd_o wv (by omega) (by omega) (by omega)]
        · cases wv with
          | int x => rw [rBd_1i hm]
          | float b => rw [rBd_1f hm]
          | _ => cases hq0
      have main : ∀ (M : Nat) (zs : List Int) (lc : mL) (hc : mH) (zr : Int), rIv (ρ ++ zs) (zr - vr) zs ve (lp.1.zip (rBds vs lp.1)) → zs[lp.2.2.1.1]? = some zr → vr ≤ zr → rRe c0 (ρ ++ zs) t lc hc → (pr.2.2.2.2.1 - zr).toNat ≤ M → rAns c0 ρ0 O E s.2.1 lc [] hc := by
        intro M
        induction M with
        | zero =>
          intro zs lc hc zr hiv hz hle hre hM
          obtain ⟨v1, p1, a1, a2, a3⟩ := rIv_get hiv hz
          rw [hzr] at a2
          cases a2
          rw [if_neg hmn] at a3
          have hzu : zr ≤ pr.2.2.2.2.1 := by rw [← hup]; exact a3.2.1
          have hok : rOk (ρ ++ zs) t.1 := by
            rw [ht]
            refine rIv_ok hO hve h0 (fun p hp hm2 => ?_) hiv
            obtain ⟨k1, k2⟩ := hk p hp hm2
            have : p.2.2.2.2.2.2 * (zr - vr) ≤ p.2.2.2.2.2.2 * (pr.2.2.2.2.1 - q0.1) := Int.mul_le_mul_of_nonneg_left (by omega) k1
            omega
          refine hbody zs lc hc hok hre ⟨hok.1, fun zs' lc' hc' hre' hpo => ?_⟩
          obtain ⟨hpg, y, z, y1, z1, yz⟩ := hpo
          exfalso
          dsimp only at hpg y1 z1 yz
          rw [hdrop] at hpg
          have b1 := rPg_get hpg z1 hzr hmn
          have e1 : (ρ ++ zs)[s.1.length + lp.2.2.1.1]? = zs[lp.2.2.1.1]? := by
            rw [List.getElem?_append_right (by rw [hO.1]; omega), hO.1]
            congr 1
            omega
          rw [e1, hz] at y1
          cases y1
          rw [hup] at b1
          omega
        | succ M ih =>
          intro zs lc hc zr hiv hz hle hre hM
          obtain ⟨v1, p1, a1, a2, a3⟩ := rIv_get hiv hz
          rw [hzr] at a2
          cases a2
          rw [if_neg hmn] at a3
          have hzu : zr ≤ pr.2.2.2.2.1 := by rw [← hup]; exact a3.2.1
          have hok : rOk (ρ ++ zs) t.1 := by
            rw [ht]
            refine rIv_ok hO hve h0 (fun p hp hm2 => ?_) hiv
            obtain ⟨k1, k2⟩ := hk p hp hm2
            have : p.2.2.2.2.2.2 * (zr - vr) ≤ p.2.2.2.2.2.2 * (pr.2.2.2.2.1 - q0.1) := Int.mul_le_mul_of_nonneg_left (by omega) k1
            omega
          refine hbody zs lc hc hok hre ⟨hok.1, fun zs' lc' hc' hre' hpo => ?_⟩
          obtain ⟨hpg, y, z, y1, z1, yz⟩ := hpo
          dsimp only at hpg y1 z1 yz hre'
          rw [hdrop] at hpg
          have b1 := rPg_get hpg z1 hzr hmn
          have et : (ρ ++ zs).take s.1.length = ρ := by rw [← hO.1, List.take_left]
          have e0 : ∀ i, (ρ ++ zs)[s.1.length + i]? = zs[i]? := fun i => by
            rw [List.getElem?_append_right (by rw [hO.1]; omega), hO.1]
            congr 1
            omega
          rw [e0, hz] at y1
          cases y1
          rw [hup] at b1
          rw [et] at hpg hre'
          exact ih zs' lc' hc' z (rPg_iv hkz (by omega) (fun i _ => e0 i) hiv hpg) z1 (by omega) hre' (by omega)
      have hiv0 := rIn0_ok hO hve hve h0
      have e0 : vr - vr = 0 := by omega
      exact main _ ve lc hc vr (by rw [e0]; exact hiv0) vr1 (Int.le_refl _) hre (Nat.le_refl _)
    · cases ha
  · cases ha
end LP
section RUNOK
variable {c0 : mH} {k0 : Nat} {dflt : Nat → List Value} {Pa P : Nat → Nat → Option mI} {Hn : Nat → List (Nat × Nat × Nat × Nat)} {Ht : Nat → Nat → Option rHt} {J : Nat → Nat → rT → Option rT} {d d' : Nat} {acall : Nat → List Value → rF → rH → Option (List rR)} {call : Nat → List Value → mH → Option (mO × mH)} {mi : Nat}
/-- what a jump must keep -/
def rJs (c0 : mH) (k0 : Nat) (dflt : Nat → List Value) (P : Nat → Nat → Option mI) (Hn : Nat → List (Nat × Nat × Nat × Nat)) (J : Nat → Nat → rT → Option rT) (d' : Nat) (call : Nat → List Value → mH → Option (mO × mH)) : Prop := ∀ (mi k : Nat) (s t : rT) (ρ : List Int) (lc : mL) (stc : List Value) (hc : mH), J mi k s = some t → rOk ρ s.1 → rEv ρ s.2.2.1 = some lc → rEs ρ s.2.2.2.1 = some stc → rHr c0 ρ s.2.2.2.2 hc → ∃ ex, rOk (ρ ++ ex) t.1 ∧ ∃ lc' stc' hc', rEv (ρ ++ ex) t.2.2.1 = some lc' ∧ rEs (ρ ++ ex) t.2.2.2.1 = some stc' ∧ rHr c0 (ρ ++ ex) t.2.2.2.2 hc' ∧ ∀ r, (∃ n, evF k0 dflt P Hn d' call n mi t.2.1 lc' stc' hc' = some r) → ∃ n, evF k0 dflt P Hn d' call n mi s.2.1 lc stc hc = some r
/-- what a call must keep -/
def rCs' (c0 : mH) (acall : Nat → List Value → rF → rH → Option (List rR)) (call : Nat → List Value → mH → Option (mO × mH)) : Prop := ∀ (ρ : List Int) ce as fs h rs asc hc, acall ce as fs h = some rs → rOk ρ fs → rEs ρ as = some asc → rHr c0 ρ h hc → ∃ r ∈ rs, ∃ ex, rOk (ρ ++ ex) r.1 ∧ ∃ oc hc', rOut (ρ ++ ex) r.2.1 oc hc' ∧ rHr c0 (ρ ++ ex) r.2.2 hc' ∧ call ce asc hc = some (oc, hc')
set_option maxHeartbeats 1000000 in
theorem rRun_ok (hP : ∀ mi pc e, Pa mi pc = some e → P mi pc = some e) (hd : d ≤ d') (hcall : rCs' c0 acall call) (hJ : rJs c0 k0 dflt P Hn J d' call) : ∀ (n : Nat), n ≤ 9000 → ∀ {cx : List rCx} {fl : Bool} {s : rT} {outs O : List rR} {ρ0 ρ : List Int} {lc : mL} {stc : List Value} {hc : mH}, s.1.length + n < 60000 → rRun k0 Pa Hn Ht J d acall mi n cx fl s = some outs → (∀ r ∈ outs, r ∈ O) → (∃ e, ρ = ρ0 ++ e) → rOk ρ s.1 → rEv ρ s.2.2.1 = some lc → rEs ρ s.2.2.2.1 = some stc → rHr c0 ρ s.2.2.2.2 hc → (∀ c ∈ cx, ∃ ρh, (∃ e, ρ = ρh ++ e) ∧ c.2.2.2 ≤ ρh.length ∧ rK c0 ρ0 O (fun n => evF k0 dflt P Hn d' call n mi) c ρh) → rAns c0 ρ0 O (fun n => evF k0 dflt P Hn d' call n mi) s.2.1 lc stc hc
  | 0, _, cx, fl, s, outs, O, ρ0, ρ, lc, stc, hc, _, h, _, _, _, _, _, _, _ => by cases h
  | n + 1, hn9, cx, fl, s, outs, O, ρ0, ρ, lc, stc, hc, hln, h, hout, hpre, hO, hl, hs, hh, hcx => by
    have pext : ∀ (ex : List Int), ∃ e, ρ ++ ex = ρ0 ++ e := fun ex => by
      obtain ⟨e, rfl⟩ := hpre
      exact ⟨e ++ ex, by rw [List.append_assoc]⟩
    have cext : ∀ (ex : List Int), ∀ c ∈ cx, ∃ ρh, (∃ e, ρ ++ ex = ρh ++ e) ∧ c.2.2.2 ≤ ρh.length ∧ rK c0 ρ0 O (fun n => evF k0 dflt P Hn d' call n mi) c ρh := fun ex c hc => by
      obtain ⟨ρh, ⟨e, he⟩, k1, k2⟩ := hcx c hc
      exact ⟨ρh, ⟨e ++ ex, by rw [he, List.append_assoc]⟩, k1, k2⟩
    unfold rRun at h
    split at h
    · rename_i lp hht
      split at h
      · rename_i c hc1
        obtain ⟨c1, c2⟩ := rCxf_ok hc1
        split at h
        · rename_i hb
          obtain ⟨ρh, k1, k2, k3⟩ := hcx c c1
          obtain ⟨b1, zs, b2, b3⟩ := rBack_ok hO hl hh k1 k2 k3.1 hb
          rw [b1] at hs
          cases hs
          rw [← c2]
          exact k3.2 zs lc hc b2 b3
        · exact rRun_ok hP hd hcall hJ n (by omega) (by omega) h hout hpre hO hl hs hh hcx
      · split at h
        · split at h
          · rename_i t vs hht2 hvs
            split at h
            · rename_i hf
              obtain ⟨hf1, hf2, hf3, hf4⟩ := hf
              have hf1' := hf1
              unfold rFits at hf1'
              simp only [Bool.and_eq_true] at hf1'
              obtain ⟨ve, hve⟩ := rAts_ok hl hh hvs hf1'.1.1.1.2
              have hst : s.2.2.2.1 = [] := by simpa using hf1'.1.1.1.1
              rw [hst] at hs
              cases hs
              have hn : s.1.length ≤ ρ.length := by rw [hO.1]; exact Nat.le_refl _
              have hre := rFits_ok hO hl hh hn hve hf1
              have et : ρ.take s.1.length = ρ := by rw [← hO.1, List.take_length]
              rw [et] at hre
              unfold rHead at hht2
              rw [hvs] at hht2
              dsimp only at hht2
              injection hht2 with hht2
              subst hht2
              refine rLoop_ok hO hve rfl hf2 hf3 hre (fun zs lc2 hc2 hok hre2 hk => ?_)
              obtain ⟨⟨l, l1, l2⟩, hh2⟩ := hre2
              have := rRun_ok hP hd hcall hJ n (by omega) (ρ0 := ρ0) (ρ := ρ ++ zs) (stc := []) (by omega) h hout (pext zs) hok l1 rfl hh2 (fun c hc3 => ?_)
              · refine this.back (fun r hr => ?_)
                obtain ⟨m, hm⟩ := hr
                exact ⟨m, evF_lv m l2 hm⟩
              · rcases List.mem_cons.mp hc3 with rfl | hc3
                · exact ⟨ρ ++ zs, ⟨[], by rw [List.append_nil]⟩, by dsimp only; rw [List.length_append, hO.1]; omega, hk⟩
                · exact cext zs c hc3
            · cases h
          · cases h
        · exact rRun_ok hP hd hcall hJ n (by omega) (by omega) h hout hpre hO hl hs hh hcx
    · rename_i q hht
      split at h
      · split at h
        · rename_i v hv
          split at h
          · rename_i hsome
            obtain ⟨c, c1⟩ := rAt_ok hl hh hv
            cases hq : rRg s.1 v with
            | none => rw [hq] at hsome; cases hsome
            | some p =>
              obtain ⟨x, rfl, x1, x2⟩ := rRg_ok hO hq c1
              have b := rI_b x
              obtain ⟨g, g1, g2⟩ := rSpl_ok (rVal_i hO hq c1) b.1 b.2 (ps := q.2.1) hO
              obtain ⟨y, y1, y2⟩ := rAll_mem h g1
              exact rRun_ok hP hd hcall hJ n (by omega) (s := (g, s.2)) (by show g.length + n < 60000; rw [rSpl_len g1]; omega) y1 (fun r hr => hout r (y2 r hr)) hpre g2 hl hs hh hcx
          · cases h
        · cases h
      · exact rRun_ok hP hd hcall hJ n (by omega) (by omega) h hout hpre hO hl hs hh hcx
    · rename_i k hht
      split at h
      · rename_i t ht
        split at h
        rotate_left
        · cases h
        rename_i hlt
        obtain ⟨ex, e1, lc', stc', hc', e2, e3, e4, e5⟩ := hJ mi k s t ρ lc stc hc ht hO hl hs hh
        exact (rRun_ok hP hd hcall hJ n (by omega) (by omega) h hout (pext ex) e1 e2 e3 e4 (cext ex)).back e5
      · cases h
    · split at h
      · cases h
      · rename_i l hl2
        obtain ⟨q, q1, q2⟩ := rSp_ok (dflt := dflt) hcall (by omega) hO hl hs hh (rSp_P hP hd hl2)
        obtain ⟨y, y1, y2⟩ := rAll_mem h q1
        cases q with
        | inr r =>
          cases y1
          obtain ⟨ex, e1, oc, hc', e2, e3, j, e4⟩ := q2
          obtain ⟨e0, he0⟩ := pext ex
          rw [he0] at e1 e2 e3
          exact ⟨r, hout r (y2 r List.mem_cons_self), e0, e1, oc, hc', e2, e3, 0 + j, e4 0⟩
        | inl t =>
          obtain ⟨ex, e1, lc', stc', hc', e2, e3, e4, j, e5⟩ := q2
          have hl3 := rSp_len hl2 q1
          refine (rRun_ok hP hd hcall hJ n (by omega) (by omega) y1 (fun r hr => hout r (y2 r hr)) (pext ex) e1 e2 e3 e4 (cext ex)).back (fun r hr => ?_)
          obtain ⟨m, hm⟩ := hr
          exact ⟨m + j, (e5 m).trans hm⟩
end RUNOK
