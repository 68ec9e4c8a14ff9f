/-! A LOOP, of any predicate of its head -/
theorem rLoopX {Q : List Int → mL → mH → Prop} {A : mL → mH → Prop} {ρ : List Int} {s t : rT} {lp : rLp} {vs : List Value} {ve : List Int} {lc : mL} {hc : mH} (hO : rOk ρ s.1) (hve : rVs ρ vs = some ve) (ht : t.1 = s.1 ++ rBds vs lp.1) (h0 : rIn0 s.1 s.1.length vs vs lp.1 = true) (ha : rAc s.1 lp vs = true) (hre : Q (ρ ++ ve) lc hc)
    (hbody : ∀ zs lc hc, rOk (ρ ++ zs) t.1 → Q (ρ ++ zs) lc hc → ((ρ ++ zs).length = t.1.length ∧ ∀ zs' lc' hc', Q ((ρ ++ zs).take s.1.length ++ zs') lc' hc' → rPo2 (s.2.1, t, lp, s.1.length) (ρ ++ zs) zs' → A lc' hc') → A lc hc) : A lc hc := by
  unfold rAc at ha
  rw [Bool.and_eq_true, decide_eq_true_eq] at ha
  obtain ⟨hg, ha⟩ := ha
  split at ha
  · rename_i pr wv hpr hwv
    split at ha
    · rename_i q0 hq0
      simp only [Bool.and_eq_true, List.all_eq_true, Bool.or_eq_true, beq_iff_eq] at ha
      obtain ⟨⟨hm, -⟩, hacc⟩ := ha
      have hlen := rIn0_len h0
      have hbl := rBds_len hlen
      have hdrop : t.1.drop s.1.length = rBds vs lp.1 := by rw [ht, List.drop_left]
      obtain ⟨vr, vr1, vr2⟩ := rVs_get hve hwv
      have hvr := rRa_ok hO (rRg_a hq0) vr2
      have hmn : ¬ pr.2.2.2.2.2.1 = 2 := by omega
      have hk : ∀ p ∈ lp.1, p.2.2.2.2.2.1 = 2 → 0 ≤ p.2.2.2.2.2.2 ∧ p.2.2.2.2.2.2 * (pr.2.2.2.2.1 - q0.1) ≤ p.2.2.2.2.1 := fun p hp hm2 => by
        have := hacc p hp
        rw [if_pos hm2, Bool.and_eq_true, decide_eq_true_eq, decide_eq_true_eq] at this
        exact this
      have hkz : ∀ p ∈ lp.1.zip (rBds vs lp.1), p.1.2.2.2.2.2.1 = 2 → 0 ≤ p.1.2.2.2.2.2.2 := fun p hp hm2 => (hk p.1 (List.of_mem_zip hp).1 hm2).1
      have hr : lp.2.2.1.1 < lp.1.length := (List.getElem?_eq_some_iff.mp hpr).1
      have hzr : (lp.1.zip (rBds vs lp.1))[lp.2.2.1.1]? = some (pr, rBd wv pr) := by
        have e1 : (rBds vs lp.1)[lp.2.2.1.1]? = some (rBd wv pr) := by
          have : lp.2.2.1.1 < (rBds vs lp.1).length := by omega
          obtain ⟨v', p', k1, k2, k3⟩ := rBds_get (List.getElem?_eq_getElem this)
          rw [hwv] at k1
          rw [hpr] at k2
          cases k1
          cases k2
          rw [List.getElem?_eq_getElem this, k3]
        rw [List.getElem?_zip_eq_some]
        exact ⟨hpr, e1⟩
      have hup : (rBd wv pr).2 = pr.2.2.2.2.1 := by
        rcases hm with hm | hm
        · rw [rBd_o wv (by omega) (by omega) (by omega)]
        · cases wv with
          | int x => rw [rBd_1i hm]
          | float b => rw [rBd_1f hm]
          | _ => cases hq0
      have main : ∀ (M : Nat) (zs : List Int) (lc : mL) (hc : mH) (zr : Int), rIv (ρ ++ zs) (zr - vr) zs ve (lp.1.zip (rBds vs lp.1)) → zs[lp.2.2.1.1]? = some zr → vr ≤ zr → Q (ρ ++ zs) lc hc → (pr.2.2.2.2.1 - zr).toNat ≤ M → A lc hc := by
        intro M
        induction M with
        | zero =>
          intro zs lc hc zr hiv hz hle hre hM
          obtain ⟨v1, p1, a1, a2, a3⟩ := rIv_get hiv hz
          rw [hzr] at a2
          cases a2
          rw [if_neg hmn] at a3
          have hzu : zr ≤ pr.2.2.2.2.1 := by rw [← hup]; exact a3.2.1
          have hok : rOk (ρ ++ zs) t.1 := by
            rw [ht]
            refine rIv_ok hO hve h0 (fun p hp hm2 => ?_) hiv
            obtain ⟨k1, k2⟩ := hk p hp hm2
            have : p.2.2.2.2.2.2 * (zr - vr) ≤ p.2.2.2.2.2.2 * (pr.2.2.2.2.1 - q0.1) := Int.mul_le_mul_of_nonneg_left (by omega) k1
            omega
          refine hbody zs lc hc hok hre ⟨hok.1, fun zs' lc' hc' hre' hpo => ?_⟩
          obtain ⟨hpg, y, z, y1, z1, yz⟩ := hpo
          exfalso
          dsimp only at hpg y1 z1 yz
          rw [hdrop] at hpg
          have b1 := rPg_get hpg z1 hzr hmn
          have e1 : (ρ ++ zs)[s.1.length + lp.2.2.1.1]? = zs[lp.2.2.1.1]? := by
            rw [List.getElem?_append_right (by rw [hO.1]; omega), hO.1]
            congr 1
            omega
          rw [e1, hz] at y1
          cases y1
          rw [hup] at b1
          omega
        | succ M ih =>
          intro zs lc hc zr hiv hz hle hre hM
          obtain ⟨v1, p1, a1, a2, a3⟩ := rIv_get hiv hz
          rw [hzr] at a2
          cases a2
          rw [if_neg hmn] at a3
          have hzu : zr ≤ pr.2.2.2.2.1 := by rw [← hup]; exact a3.2.1
          have hok : rOk (ρ ++ zs) t.1 := by
            rw [ht]
            refine rIv_ok hO hve h0 (fun p hp hm2 => ?_) hiv
            obtain ⟨k1, k2⟩ := hk p hp hm2
            have : p.2.2.2.2.2.2 * (zr - vr) ≤ p.2.2.2.2.2.2 * (pr.2.2.2.2.1 - q0.1) := Int.mul_le_mul_of_nonneg_left (by omega) k1
            omega
          refine hbody zs lc hc hok hre ⟨hok.1, fun zs' lc' hc' hre' hpo => ?_⟩
          obtain ⟨hpg, y, z, y1, z1, yz⟩ := hpo
          dsimp only at hpg y1 z1 yz hre'
          rw [hdrop] at hpg
          have b1 := rPg_get hpg z1 hzr hmn
          have et : (ρ ++ zs).take s.1.length = ρ := by rw [← hO.1, List.take_left]
          have e0 : ∀ i, (ρ ++ zs)[s.1.length + i]? = zs[i]? := fun i => by
            rw [List.getElem?_append_right (by rw [hO.1]; omega), hO.1]
            congr 1
            omega
          rw [e0, hz] at y1
          cases y1
          rw [hup] at b1
          rw [et] at hpg hre'
          exact ih zs' lc' hc' z (rPg_iv hkz (by omega) (fun i _ => e0 i) hiv hpg) z1 (by omega) hre' (by omega)
      have hiv0 := rIn0_ok hO hve hve h0
      have e0 : vr - vr = 0 := by omega
      exact main _ ve lc hc vr (by rw [e0]; exact hiv0) vr1 (Int.le_refl _) hre (Nat.le_refl _)
    · cases ha
  · cases ha
