/-! THE A-PART: a name; all of it; both sides -/
variable {σ τ : zS} {fi : Nat}
theorem eRel_add {E : Int32 → Option (Int64 × Int32)} {τ : zS} (h : eRel E τ) (k x q : Int32) : eRel E (zI (yAdd τ k x) 25 21 q) := eRel_cong h rfl rfl rfl rfl rfl rfl rfl rfl rfl
theorem apN_cls (h : aR σ τ fi) (ho : oR σ τ) : xQ σ = yQ τ ∧ (yQ τ).toInt ≤ (yE τ).toInt ∧ (yP τ).toInt ≤ (yQ τ).toInt ∧ ((yAlo τ ∧ zLoc (yT τ) (yP τ) (yQ τ) 70 ∧ xAlo σ ∧ xKn σ = 5 ∧ zD0 (xNp σ) = yT τ (yP τ).toNatClampNeg - 48) ∨ (yAlo τ ∧ ¬ zLoc (yT τ) (yP τ) (yQ τ) 70 ∧ yUn τ (yQ τ) (yNm τ (yP τ) (yQ τ)) ∧ xAlo σ ∧ xKn σ = 2 ∧ xL σ (xNp σ) = -1 ∧ xNp σ = yNm τ (yP τ) (yQ τ)) ∨ (¬ (yAlo τ ∧ (zLoc (yT τ) (yP τ) (yQ τ) 70 ∨ yUn τ (yQ τ) (yNm τ (yP τ) (yQ τ)))) ∧ ¬ (xAlo σ ∧ ((xKn σ = 5 ∧ ¬ 100 + zD0 (xNp σ) = -1) ∨ (xKn σ = 2 ∧ xL σ (xNp σ) = -1))))) := by
  obtain ⟨hT, hA, he, h0, h1, h240, hch⟩ := ho
  obtain ⟨n, hd, hn, hq, hi, hpl⟩ := run_ok (T := yT τ) (e := yE τ) (p := yP τ) h0 (by omega) h240
  have hxq : xQ σ = yQ τ := by
    show zRun (xT σ) (xPe σ) (xAt σ) = zRun (yT τ) (yE τ) (yP τ)
    rw [hT, hA, he]
  have hle := zSc_le (fun k => zPb (yT τ k.toNatClampNeg)) (yE τ) (yP τ)
  have hq' : zSc (fun k => zPb (yT τ k.toNatClampNeg)) (yE τ) (yP τ) = yQ τ := rfl
  rw [hq'] at hle
  have hqe : (yQ τ).toInt ≤ (yE τ).toInt := by
    rcases hle.2.1 with a | a
    · exact a
    · rw [a]
      exact h1
  have hN : xN σ = n := by
    show zDn (xAt σ) (xQ σ) = n
    rw [hxq, hA]
    exact hd
  have eNp : xNp σ = zPk (yT τ) (yP τ) (min n 6) := by
    show zPk (xT σ) (xAt σ) (min (xN σ) 6) = _
    rw [hN, hT, hA]
  have eK : xKn σ = zKn (yT τ) (yP τ) n := by
    show zKn (xT σ) (xAt σ) (xN σ) = _
    rw [hN, hT, hA]
  have hAl : xAlo σ ↔ (yQ τ = yE τ ∨ yT τ (yQ τ).toNatClampNeg = 44 ∨ yT τ (yQ τ).toNatClampNeg = 40) := by
    show (xQ σ < xPe σ → xT σ (xQ σ).toNatClampNeg = 44 ∨ xT σ (xQ σ).toNatClampNeg = 40) ↔ _
    rw [hxq, hT, he]
    constructor
    · intro k
      by_cases g : yQ τ < yE τ
      · exact .inr (k g)
      · left
        apply Int32.toInt_inj.mp
        rw [Int32.lt_iff_toInt_lt] at g
        omega
    · intro k g
      rcases k with k | k
      · rw [k, Int32.lt_iff_toInt_lt] at g
        omega
      · exact k
  refine ⟨hxq, hqe, hle.1, ?_⟩
  by_cases hz : n = 0
  · right; right
    have hpq : yQ τ = yP τ := by
      apply Int32.toInt_inj.mp
      rw [hi, hz]
      omega
    refine ⟨fun k => ?_, fun k => ?_⟩
    · have := k.1.1
      rw [hpq, Int32.lt_iff_toInt_lt] at this
      omega
    · have hK : xKn σ = 0 := by
        rw [eK, hz]
        unfold zKn zKf
        rw [if_pos (show zCp (yT τ) (yP τ) 0 = 0 from rfl), if_neg (by decide)]
      rw [hK] at k
      rcases k.2 with g | g
      · exact absurd g.1 (by decide)
      · exact absurd g.1 (by decide)
  · have hlt : yP τ < yQ τ := by
      rw [Int32.lt_iff_toInt_lt, hi]
      omega
    have hya : yAlo τ ↔ xAlo σ := by
      rw [hAl]
      exact ⟨fun k => k.2, fun k => ⟨hlt, k⟩⟩
    have hno : (¬ zLoc (yT τ) (yP τ) (yQ τ) 70) → (¬ yIs (yT τ) (yP τ) (yQ τ)) → (¬ xKn σ = 5) → (¬ xKn σ = 2) → ¬ (yAlo τ ∧ (zLoc (yT τ) (yP τ) (yQ τ) 70 ∨ yUn τ (yQ τ) (yNm τ (yP τ) (yQ τ)))) ∧ ¬ (xAlo σ ∧ ((xKn σ = 5 ∧ ¬ 100 + zD0 (xNp σ) = -1) ∨ (xKn σ = 2 ∧ xL σ (xNp σ) = -1))) := fun a b c d => ⟨fun k => k.2.elim a (fun g => b g.1), fun k => k.2.elim (fun g => c g.1) (fun g => d g.1)⟩
    rcases kindOf (by omega) hn hq hd hpl with ⟨a, b, c⟩ | ⟨a, b, c⟩ | ⟨a, b, c⟩ | ⟨a, b, c⟩ | ⟨a, b, c⟩ | ⟨a, b, b2, c⟩ | ⟨a, b, b2, b3, c⟩
    · right; right
      refine hno (fun g => ?_) (fun g => ?_) (by rw [eK, c]; decide) (by rw [eK, c]; decide)
      · have h2 : n = 2 := (ofN_inj (b := 2) (by omega) (by omega)).1 (hq.symm.trans g.1)
        have := yCap_dig n a 1 (by omega)
        rw [zChr_1, g.2.2] at this
        exact absurd this (by decide)
      · have := g.1
        rw [show zDn (yP τ) (yQ τ) = n from hd, a] at this
        cases this
    · right; right
      refine hno (fun g => ?_) (fun g => ?_) (by rw [eK, c]; decide) (by rw [eK, c]; decide)
      · have h2 : n = 2 := (ofN_inj (b := 2) (by omega) (by omega)).1 (hq.symm.trans g.1)
        omega
      · have := g.1
        rw [show zDn (yP τ) (yQ τ) = n from hd, a] at this
        cases this
    · right; right
      exact hno (fun g => absurd (b.2.2.symm.trans g.2.2) (by decide)) (fun g => g.2.2.2.1 b) (by rw [eK, c]; decide) (by rw [eK, c]; decide)
    · have h2 : n = 2 := (ofN_inj (b := 2) (by omega) (by omega)).1 (hq.symm.trans b.1)
      have e0 : zD0 (xNp σ) = yT τ (yP τ).toNatClampNeg - 48 := by
        rw [eNp, h2, show min 2 6 = 2 from rfl, zD0_pk (by omega) (by omega) (fun i hi => zPb_128 (hpl i (by omega))), zChr_0]
      by_cases g : yAlo τ
      · exact .inl ⟨g, b, hya.1 g, by rw [eK, c], e0⟩
      · exact .inr (.inr ⟨fun k => g k.1, fun k => g (hya.2 k.1)⟩)
    · right; right
      exact hno (fun g => absurd (b.2.2.symm.trans g.2.2) (by decide)) (fun g => g.2.2.1 b) (by rw [eK, c]; decide) (by rw [eK, c]; decide)
    · have e8 : xNp σ = yNm τ (yP τ) (yQ τ) := by
        rw [eNp]
        show _ = zPk (yT τ) (yP τ) (min (zDn (yP τ) (yQ τ)) 8)
        rw [show zDn (yP τ) (yQ τ) = n from hd, (min6 b2).1, (min6 b2).2]
      have hl : xL σ (xNp σ) = -1 ↔ (yFd τ (yNm τ (yP τ) (yQ τ)) < 0 ∨ ¬ yHas τ (yFd τ (yNm τ (yP τ) (yQ τ)))) := by
        rw [e8]
        rcases aR_l h (yNm τ (yP τ) (yQ τ)) with ⟨g1, g2⟩ | ⟨g1, g2, g3, g4⟩
        · refine ⟨fun _ => ?_, fun _ => g1⟩
          by_cases k : yFd τ (yNm τ (yP τ) (yQ τ)) < 0
          · exact .inl k
          · exact .inr (fun q => g2 ⟨k, q⟩)
        · refine ⟨fun k => absurd k (wOk_ne g1), fun k => ?_⟩
          rcases k with k | k
          · exact absurd k g3
          · exact absurd g4 k
      by_cases g : yAlo τ ∧ xL σ (xNp σ) = -1
      · exact .inr (.inl ⟨g.1, b.2.2.2.2, ⟨b, hl.1 g.2⟩, hya.1 g.1, by rw [eK, c], g.2, e8⟩)
      · refine .inr (.inr ⟨fun k => ?_, fun k => ?_⟩)
        · rcases k.2 with k2 | k2
          · exact b.2.2.2.2 k2
          · exact g ⟨k.1, hl.2 k2.2⟩
        · rcases k.2 with k2 | k2
          · rw [eK, c] at k2
            exact absurd k2.1 (by decide)
          · exact g ⟨hya.2 k.1, k2.2⟩
    · right; right
      exact hno b2.2.1 b (by rw [eK, c]; decide) (by rw [eK, c]; decide)
theorem apN_ok (h : aR σ τ fi) (ho : oR σ τ) (hb : yB τ = 0) {o : zO} {σ1 τ1 : zS} {x : Int32} (hc : zApN σ o σ1) (hy : yApN τ x τ1) : apRes σ τ fi o σ1 x τ1 := by
  obtain ⟨hxq, hqe, hpq, cls⟩ := apN_cls h ho
  have ho' := ho
  obtain ⟨hT, hA, he, h0, h1, h240, hch⟩ := ho
  have hE := aR_eRel h hT he h240
  rcases cls with ⟨k1, k2, k3, k4, k5⟩ | ⟨k1, k2, k3, k4, k5, k6, k7⟩ | ⟨k1, k2⟩
  · have hdg := dig_lt k2.2.1
    have h100 : (100 + (yT τ (yP τ).toNatClampNeg - 48)).toInt = 100 + (yT τ (yP τ).toNatClampNeg - 48).toInt := int100 hdg.2.1 (by omega)
    have hne : ¬ 100 + (yT τ (yP τ).toNatClampNeg - 48) = -1 := ne_m1 (by omega)
    rcases hc with ⟨c1, c2, c3, nm, ln, cp, nu, c4, c5⟩ | ⟨c1, c2, c3⟩ | ⟨c1, c2⟩
    · rw [k5] at c5
      rcases hy with ⟨y1, y2, y3⟩ | ⟨y1, y2, y3⟩ | ⟨y1, y2⟩
      · rcases y3 with ⟨y4, y5⟩ | ⟨y4, y5, y6⟩
        · right; left
          refine ⟨0, c4, y5, ?_, ?_⟩
          · rw [← c5]
            exact hne
          · rw [← c5]
            show ¬ xWc σ < 60
            exact wt60 h y4
        · right; right
          have hR : aR (zI (zTs (zI σ 11 17 (-1)) (xQ σ) nm ln cp nu) 11 17 (100 + (yT τ (yP τ).toNatClampNeg - 48))) τ fi := h
          have hF := apFin_add hR (kd := 1) (x := yT τ (yP τ).toNatClampNeg - 48) (q := yQ τ) ⟨by show (100 + (yT τ (yP τ).toNatClampNeg - 48)).toInt = _; rw [h100, show (1 : Int32).toInt = 1 from rfl]; omega, by decide, ⟨hdg.2.1, by omega⟩, fun g => absurd g (by decide), fun g => absurd g (by decide)⟩ y4 hne
          rw [← c5, ← y6, y5, yOf0]
          refine ⟨c4, mag0, hb, ⟨hT, hxq, he, ?_, hqe, h240, hch⟩, eRel_add (show eRel (xE (zI (zTs (zI σ 11 17 (-1)) (xQ σ) nm ln cp nu) 11 17 (100 + (yT τ (yP τ).toNatClampNeg - 48)))) τ from hE) _ _ _, h.pl, hF, ⟨rfl, rfl, rfl, rfl, rfl, rfl, rfl, rfl, rfl, rfl⟩, ⟨rfl, rfl, rfl⟩⟩
          show 0 ≤ (yQ τ).toInt
          omega
      · exact absurd k2 y2
      · exact absurd ⟨k1, .inl k2⟩ y1
    · rw [k4] at c2
      exact absurd c2 (by decide)
    · exact absurd ⟨k3, .inl ⟨k4, by rw [k5]; exact hne⟩⟩ c1
  · have hs := sym_find (aR_sym h) (yNm τ (yP τ) (yQ τ))
    have h30 := h.nm.1
    have hcn := h.cn
    rcases hc with ⟨c1, c2, c3⟩ | ⟨c1, c2, c3, c4⟩ | ⟨c1, c2⟩
    · rw [k5] at c2
      exact absurd c2 (by decide)
    · rw [k7] at c4
      rcases hy with ⟨y1, y2, y3⟩ | ⟨y1, y2, y3, y4, y5⟩ | ⟨y1, y2⟩
      · exact absurd y2 k2
      · generalize yNm τ (yP τ) (yQ τ) = M at *
        rcases hs with ⟨i, s1, s2, s3, s4, s5, s6⟩ | ⟨s1, s2, s3⟩
        · rcases c4 with ⟨c5, c6⟩ | ⟨nm, ln, cp, nu, c5⟩
          · exact absurd s5 c5.1
          · rcases c5 with ⟨c6, c7, c8, c9⟩ | ⟨c6, c7⟩
            · have c9' : zI (zTs (zI σ 11 17 (-1)) (xQ σ) nm ln cp nu) 11 17 (xIx σ M) = σ1 := c9
              rw [s4] at c9'
              have hni : ¬ Int32.ofNat i = -1 := ne_m1 (by rw [zOfI (by omega)]; omega)
              rcases y5 with ⟨y6, y7⟩ | ⟨y6, y7⟩ | ⟨y6, y7⟩
              · rcases y7 with ⟨y8, y9⟩ | ⟨y8, y9⟩
                · right; left
                  refine ⟨0, c8, y9, ?_, ?_⟩
                  · rw [← c9']
                    exact hni
                  · rw [← c9']
                    show ¬ xWc σ < 60
                    exact wt60 h y8
                · right; right
                  have hR : aR (zI (zTs (zI σ 11 17 (-1)) (xQ σ) nm ln cp nu) 11 17 (Int32.ofNat i)) τ fi := h
                  have hin := zOfI (n := i) (by omega)
                  have hcc := tn_i h30.1
                  rw [s6] at y9
                  have hh : τ.2.2.1 36 (Int32.ofNat i).toNatClampNeg = 0 := by
                    rcases k3.2 with g | g
                    · rw [s6] at g
                      exact absurd g (ofN_ge (by omega))
                    · rw [s6] at g
                      exact Decidable.byContradiction g
                  have hF := apFin_add hR (kd := 0) (x := Int32.ofNat i) (q := yQ τ) ⟨by show (Int32.ofNat i).toInt = _; rw [i0]; omega, by decide, ⟨by omega, by omega⟩, fun _ => ⟨by rw [← hcn]; omega, hh⟩, fun g => absurd g (by decide)⟩ y8 hni
                  rw [← c9', ← y9, y4, yOf0]
                  refine ⟨c8, mag0, hb, ⟨hT, hxq, he, ?_, hqe, h240, hch⟩, eRel_add (show eRel (xE (zI (zTs (zI σ 11 17 (-1)) (xQ σ) nm ln cp nu) 11 17 (Int32.ofNat i))) τ from hE) _ _ _, h.pl, hF, ⟨rfl, rfl, rfl, rfl, rfl, rfl, rfl, rfl, rfl, rfl⟩, ⟨rfl, rfl, rfl⟩⟩
                  show 0 ≤ (yQ τ).toInt
                  omega
              · rw [s6] at y6
                exact absurd y6 (ofN_ge (by omega))
              · rw [s6] at y6
                exact absurd y6 (ofN_ge (by omega))
            · exact absurd s5 c6
        · have hneg : yFd τ M < 0 := by rw [s3]; decide
          rcases c4 with ⟨c5, c6⟩ | ⟨nm, ln, cp, nu, c5⟩
          · left
            refine ⟨c6.1, ?_⟩
            rcases y5 with ⟨y6, y7⟩ | ⟨y6, y7, y8⟩ | ⟨y6, y7, y8, y9⟩
            · exact absurd hneg y6
            · exact y8
            · exfalso
              have := c5.2
              rw [Int32.lt_iff_toInt_lt, show (30 : Int32).toInt = 30 from rfl] at this
              rw [← hcn] at y8
              omega
          · rcases c5 with ⟨c6, c7⟩ | ⟨c6, c7, c8, c9, c10, c11⟩
            · exact absurd c6 s2
            · have c7' : xCn σ < 30 := c7
              have c11' : zI (zNew (zTs (zI σ 11 17 (-1)) (xQ σ) nm ln cp nu) M) 11 17 (xCn σ) = σ1 := c11
              have hni : ¬ xCn σ = -1 := ne_m1 h30.1
              rcases y5 with ⟨y6, y7⟩ | ⟨y6, y7, y8⟩ | ⟨y6, y7, y8, y9⟩
              · exact absurd hneg y6
              · exfalso
                rw [hcn, y7] at c7'
                exact absurd c7' (by decide)
              · have hN := aR_new h s1 c7'
                have hR : aR (zI (zNew (zTs (zI σ 11 17 (-1)) (xQ σ) nm ln cp nu) M) 11 17 (xCn σ)) (yNew τ M) fi := hN
                rcases y9 with ⟨y10, y11⟩ | ⟨y10, y11⟩
                · right; left
                  refine ⟨0, c10, y11, ?_, ?_⟩
                  · rw [← c11']
                    exact hni
                  · rw [← c11']
                    show ¬ xWc σ < 60
                    exact wt60 h y10
                · right; right
                  have hi1 := zInc c7'
                  have hF := apFin_add hR (kd := 0) (x := yCn τ) (q := yQ τ) ⟨by show (xCn σ).toInt = _; rw [i0, ← hcn]; omega, by decide, ⟨by rw [← hcn]; exact h30.1, by rw [← hcn]; omega⟩, fun _ => ⟨by show (yCn τ).toInt < (yCn τ + 1).toInt; rw [← hcn]; omega, by
                    show upd (τ.2.2.1 36) (yCn τ).toNatClampNeg (vp_nar .boolean 0) (yCn τ).toNatClampNeg = 0
                    rw [upd_eq, if_pos rfl]
                    decide⟩, fun g => absurd g (by decide)⟩ y10 hni
                  have hE2 : eRel (xE (zI (zNew (zTs (zI σ 11 17 (-1)) (xQ σ) nm ln cp nu) M) 11 17 (xCn σ))) (yNew τ M) := aR_eRel hR hT he h240
                  rw [← c11', ← y11, y4, yOf0]
                  refine ⟨c10, mag0, hb, ⟨hT, hxq, he, ?_, hqe, h240, hch⟩, eRel_add hE2 _ _ _, h.pl, hF, ⟨rfl, rfl, rfl, rfl, rfl, rfl, rfl, rfl, rfl, rfl⟩, ⟨rfl, rfl, rfl⟩⟩
                  show 0 ≤ (yQ τ).toInt
                  omega
      · exact absurd ⟨k1, .inr k3⟩ y1
    · exact absurd ⟨k4, .inr ⟨k5, k6⟩⟩ c1
  · rcases hc with ⟨c1, c2, c3, c4⟩ | ⟨c1, c2, c3, c4⟩ | ⟨c1, c2⟩
    · exact absurd ⟨c1, .inl ⟨c2, c3⟩⟩ k2
    · exact absurd ⟨c1, .inr ⟨c2, c3⟩⟩ k2
    · rcases hy with ⟨y1, y2, y3⟩ | ⟨y1, y2, y3, y4⟩ | ⟨y1, y2⟩
      · exact absurd ⟨y1, .inl y2⟩ k1
      · exact absurd ⟨y1, .inr y3⟩ k1
      · exact apE_ok h ho' hb c2 y2
