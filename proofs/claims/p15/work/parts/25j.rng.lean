/-! THE MACHINE WITH RANGES IS SOUND: writes -/
section RP
variable {ρ : List Int} {fs : rF} {c0 : mH}
theorem rNc (x : Int32) : vp_nar .char x = (x.toUInt32 % 65536).toInt32 := by
  unfold vp_nar
  rfl
theorem rNb {x : Int32} (h : 0 ≤ x.toInt ∧ x.toInt ≤ 1) : vp_nar .boolean x = x := by
  have : x = 0 ∨ x = 1 := by
    by_cases h0 : x.toInt = 0
    · exact Or.inl (Int32.toInt_inj.mp h0)
    · exact Or.inr (Int32.toInt_inj.mp (show x.toInt = 1 by omega))
  rcases this with rfl | rfl <;> rfl
theorem rFit_ok (hO : rOk ρ fs) {k : Nat} {v c : Value} (hc : rE ρ v = some c) (h : rFit fs k v = true) : mFit k c = true := by
  unfold rFit at h
  split at h
  · cases hc; rfl
  · obtain ⟨y, rfl⟩ := rE_fi hc; rfl
  · split at h
    · rename_i q hq
      obtain ⟨x, rfl, x1, x2⟩ := rRg_ok hO hq hc
      rw [Bool.and_eq_true, decide_eq_true_eq, decide_eq_true_eq] at h
      have : x = 0 ∨ x = 1 := by
        by_cases h0 : x.toInt = 0
        · exact Or.inl (Int32.toInt_inj.mp h0)
        · exact Or.inr (Int32.toInt_inj.mp (show x.toInt = 1 by omega))
      rcases this with rfl | rfl <;> rfl
    · cases h
  · cases hc; rfl
  · obtain ⟨y, rfl⟩ := rE_dl hc; rfl
  · cases hc; rfl
  · obtain ⟨y, rfl⟩ := rE_rr hc; rfl
  · cases h
theorem rUpd {n i : Nat} {f : Nat → Int32} {x : Int32} {l u a b : Int} (hf : ∀ j, j < n → l ≤ (f j).toInt ∧ (f j).toInt ≤ u) (h1 : a ≤ x.toInt) (h2 : x.toInt ≤ b) : ∀ j, j < n → rMin l a ≤ (upd f i x j).toInt ∧ (upd f i x j).toInt ≤ rMax u b := by
  intro j hj
  have := hf j hj
  unfold upd rMin rMax
  split
  · split <;> split <;> omega
  · split <;> split <;> omega
theorem rUpdl {n i : Nat} {f : Nat → Int64} {x : Int64} {l u a b : Int} (hf : ∀ j, j < n → l ≤ (f j).toInt ∧ (f j).toInt ≤ u) (h1 : a ≤ x.toInt) (h2 : x.toInt ≤ b) : ∀ j, j < n → rMin l a ≤ (vp_updL f i x j).toInt ∧ (vp_updL f i x j).toInt ≤ rMax u b := by
  intro j hj
  have := hf j hj
  unfold vp_updL rMin rMax
  split
  · split <;> split <;> omega
  · split <;> split <;> omega
set_option maxHeartbeats 2000000 in
theorem rP_ok (hO : rOk ρ fs) {h h' : rH} {hc : mH} (hh : rHr c0 ρ h hc) {k0 : Nat} {i : Instr} {o1 o2 o3 : Nat} {st st' stc : List Value} (hs : rEs ρ st = some stc) (hg : rP fs k0 i o1 o2 o3 st h = some (st', h')) : ∃ stc' hc', mP k0 i o1 o2 o3 stc hc = some (stc', hc') ∧ rEs ρ st' = some stc' ∧ rHr c0 ρ h' hc' := by
  unfold rP at hg
  split at hg
  · split at hg
    · rename_i v a r
      split at hg
      · rename_i ci gs hcell
        split at hg
        · rename_i hq
          cases hg
          obtain ⟨d, rd, hd, hr, rfl⟩ := rEs_cons hs
          obtain ⟨e, re, he, hr2, rfl⟩ := rEs_cons hr
          cases he
          obtain ⟨cc, c1, c2⟩ := hh.2.1 _ _ hcell
          obtain ⟨g, e1, e2⟩ := c2.obj hq.1.2
          rw [e2] at c1
          refine ⟨re, hc.set a (some (.inr (ci, g.set o2 d))), ?_, hr2, hh.set a hcell (rCr.mobj hq.1.2 (rEs_set e1 hd))⟩
          show (match hc[a]? with
            | some (some (.inr (ci, fs))) => if ci = o1 ∧ k0 ≤ a ∧ o2 < fs.length ∧ mFit o3 d = true then some (re, hc.set a (some (.inr (ci, fs.set o2 d)))) else none
            | _ => none) = _
          rw [c1]
          exact if_pos ⟨hq.1.1, hq.2.1, by rw [rEs_len e1]; exact hq.2.2.1, rFit_ok hO hd hq.2.2.2⟩
        · cases hg
      · cases hg
    · cases hg
  · split at hg
    · rename_i v x a r
      split at hg
      · rename_i n l u q hcell hv
        split at hg
        · rename_i hq
          cases hg
          obtain ⟨d, rd, hd, hr, rfl⟩ := rEs_cons hs
          obtain ⟨e, re, he, hr2, rfl⟩ := rEs_cons hr
          obtain ⟨b, rb, hb, hr3, rfl⟩ := rEs_cons hr2
          cases hb
          obtain ⟨y, rfl, y1, y2⟩ := rRl_ok hO hv hd
          obtain ⟨k, rfl, k2⟩ := rIx_ok hO he hq.1
          obtain ⟨cc, c1, c2⟩ := hh.2.1 _ _ hcell
          obtain ⟨f, f1, f2⟩ := c2.lng
          rw [f1] at c1
          refine ⟨rb, hc.set a (some (.inl (1, n, .inr (.inl (vp_updL f k.toNatClampNeg y))))), ?_, hr3, hh.set a hcell ⟨_, rfl, rUpdl f2 y1 y2⟩⟩
          show (match hc[a]? with
            | some (some (.inl (1, n, .inr (.inl f)))) => if mIn k n = true ∧ k0 ≤ a then some (rb, hc.set a (some (.inl (1, n, .inr (.inl (vp_updL f k.toNatClampNeg y)))))) else none
            | _ => none) = _
          rw [c1]
          exact if_pos ⟨k2, hq.2⟩
        · cases hg
      · cases hg
    · cases hg
  · rename_i i _ _
    split at hg
    · rename_i v x a r
      split at hg
      · rename_i k n l u q hcell hv
        split at hg
        · rename_i hq
          obtain ⟨d, rd, hd, hr, rfl⟩ := rEs_cons hs
          obtain ⟨e, re, he, hr2, rfl⟩ := rEs_cons hr
          obtain ⟨b, rb, hb, hr3, rfl⟩ := rEs_cons hr2
          cases hb
          obtain ⟨y, rfl, y1, y2⟩ := rRg_ok hO hv hd
          have hpk := rPk_ok hq.1
          obtain ⟨kx, rfl, k2⟩ := rIx_ok hO he hq.2.1
          obtain ⟨cc, c1, c2⟩ := hh.2.1 _ _ hcell
          split at hg
          · rename_i hi
            simp [hi] at hpk
            subst hpk hi
            cases hg
            obtain ⟨f, f1, f2⟩ := c2.int (by decide) (by decide)
            rw [f1] at c1
            refine ⟨rb, hc.set a (some (.inl (0, n, .inl (upd f kx.toNatClampNeg y)))), ?_, hr3, hh.set a hcell (rCr.mint (by decide) (by decide) (rUpd f2 y1 y2))⟩
            show (match hc[a]? with
              | some (some (.inl (0, n, .inl f))) => if mIn kx n = true ∧ k0 ≤ a then some (rb, hc.set a (some (.inl (0, n, .inl (upd f kx.toNatClampNeg y))))) else none
              | _ => none) = _
            rw [c1]
            exact if_pos ⟨k2, hq.2.2⟩
          · split at hg
            · rename_i hi
              obtain ⟨hi, z1, z2⟩ := hi
              simp [hi] at hpk
              subst hpk hi
              cases hg
              obtain ⟨f, f1, f2⟩ := c2.int (by decide) (by decide)
              rw [f1] at c1
              have hy : vp_nar .char y = y := by rw [rNc, rCh_same ⟨by omega, by omega⟩]
              refine ⟨rb, hc.set a (some (.inl (2, n, .inl (upd f kx.toNatClampNeg (vp_nar .char y))))), ?_, hr3, hh.set a hcell (rCr.mint (by decide) (by decide) (by rw [hy]; exact rUpd f2 y1 y2))⟩
              show (match hc[a]? with
                | some (some (.inl (2, n, .inl f))) => if mIn kx n = true ∧ k0 ≤ a then some (rb, hc.set a (some (.inl (2, n, .inl (upd f kx.toNatClampNeg (vp_nar .char y)))))) else none
                | _ => none) = _
              rw [c1]
              exact if_pos ⟨k2, hq.2.2⟩
            · split at hg
              · rename_i hi
                obtain ⟨hi, z1, z2⟩ := hi
                simp [hi] at hpk
                subst hpk hi
                cases hg
                obtain ⟨f, f1, f2⟩ := c2.int (by decide) (by decide)
                rw [f1] at c1
                have hy : vp_nar .boolean y = y := rNb ⟨by omega, by omega⟩
                refine ⟨rb, hc.set a (some (.inl (3, n, .inl (upd f kx.toNatClampNeg (vp_nar .boolean y))))), ?_, hr3, hh.set a hcell (rCr.mint (by decide) (by decide) (by rw [hy]; exact rUpd f2 y1 y2))⟩
                show (match hc[a]? with
                  | some (some (.inl (3, n, .inl f))) => if mIn kx n = true ∧ k0 ≤ a then some (rb, hc.set a (some (.inl (3, n, .inl (upd f kx.toNatClampNeg (vp_nar .boolean y)))))) else none
                  | _ => none) = _
                rw [c1]
                exact if_pos ⟨k2, hq.2.2⟩
              · cases hg
        · cases hg
      · cases hg
    · cases hg
theorem rX_ok (hO : rOk ρ fs) (hn : fs.length < 60000) {o3 : Nat} {st st' stc : List Value} {fs' : rF} (hc : mH) (hs : rEs ρ st = some stc) (hg : rX fs o3 st = some (fs', st')) : ∃ stc', mX o3 stc hc = some (stc', hc) ∧ ∃ e, rOk (ρ ++ e) fs' ∧ rEs (ρ ++ e) st' = some stc' := by
  unfold rX at hg
  split at hg
  · split at hg
    · split at hg
      · rename_i a r hq
        cases hg
        obtain ⟨d, rd, hd, hr, rfl⟩ := rEs_cons hs
        cases hd
        refine ⟨rd, ?_, rSame hO hr⟩
        show (if (rd.map fun v => v.category).sum ≤ 8 then some (rd, hc) else none) = _
        rw [rEs_cats hr, if_pos hq]
      · cases hg
    · cases hg
  · split at hg
    · rename_i y x r
      split at hg
      · rename_i p q hp hq2
        split at hg
        · rename_i hq
          cases hg
          obtain ⟨d, rd, hd, hr, rfl⟩ := rEs_cons hs
          obtain ⟨e, re, he, hr2, rfl⟩ := rEs_cons hr
          obtain ⟨y', rfl, y1, y2⟩ := rRg_ok hO hq2 hd
          obtain ⟨x', rfl, x1, x2⟩ := rRg_ok hO hp he
          refine ⟨.int (if y' < x' then y' else x') :: re, ?_, rPut hO hn hr2 (fun _ _ => ?_)⟩
          · show (if (re.map fun v => v.category).sum ≤ 7 then some (Value.int (if y' < x' then y' else x') :: re, hc) else none) = _
            rw [rEs_cats hr2, if_pos hq]
          · by_cases hlt : y' < x'
            · rw [if_pos hlt]
              rw [Int32.lt_iff_toInt_lt] at hlt
              unfold rMin
              split <;> split <;> omega
            · rw [if_neg hlt]
              rw [Int32.lt_iff_toInt_lt] at hlt
              unfold rMin
              split <;> split <;> omega
        · cases hg
      · cases hg
    · cases hg
  · split at hg
    · rename_i y x r
      split at hg
      · rename_i p q hp hq2
        split at hg
        · rename_i hq
          cases hg
          obtain ⟨d, rd, hd, hr, rfl⟩ := rEs_cons hs
          obtain ⟨e, re, he, hr2, rfl⟩ := rEs_cons hr
          obtain ⟨y', rfl, y1, y2⟩ := rRg_ok hO hq2 hd
          obtain ⟨x', rfl, x1, x2⟩ := rRg_ok hO hp he
          refine ⟨.int (if x' < y' then y' else x') :: re, ?_, rPut hO hn hr2 (fun _ _ => ?_)⟩
          · show (if (re.map fun v => v.category).sum ≤ 7 then some (Value.int (if x' < y' then y' else x') :: re, hc) else none) = _
            rw [rEs_cats hr2, if_pos hq]
          · by_cases hlt : x' < y'
            · rw [if_pos hlt]
              rw [Int32.lt_iff_toInt_lt] at hlt
              unfold rMax
              split <;> split <;> omega
            · rw [if_neg hlt]
              rw [Int32.lt_iff_toInt_lt] at hlt
              unfold rMax
              split <;> split <;> omega
        · cases hg
      · cases hg
    · cases hg
  · cases hg
end RP
