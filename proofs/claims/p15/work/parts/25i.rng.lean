/-! THE MACHINE WITH RANGES IS SOUND: reads -/
section RG
variable {ρ : List Int} {fs : rF} {c0 : mH}
theorem rEx_ok {v : Value} (h : rExa v = true) : rE ρ v = some v := by
  cases v <;> first | rfl | cases h
theorem rAk_ok {i : Instr} {k : Nat} (h : rAk i k = true) : (i = .iaload ∧ (k = 0 ∨ k = 4)) ∨ (i = .caload ∧ k = 2) ∨ (i = .baload ∧ (k = 3 ∨ k = 7)) := by
  unfold rAk at h
  split at h
  · rw [Bool.or_eq_true, beq_iff_eq, beq_iff_eq] at h
    exact Or.inl ⟨rfl, h⟩
  · rw [beq_iff_eq] at h
    exact Or.inr (Or.inl ⟨rfl, h⟩)
  · rw [Bool.or_eq_true, beq_iff_eq, beq_iff_eq] at h
    exact Or.inr (Or.inr ⟨rfl, h⟩)
  · cases h
theorem rPk_ok {i : Instr} {k : Nat} (h : rPk i k = true) : (i = .iastore ∧ k = 0) ∨ (i = .castore ∧ k = 2) ∨ (i = .bastore ∧ k = 3) := by
  unfold rPk at h
  split at h
  · rw [beq_iff_eq] at h
    exact Or.inl ⟨rfl, h⟩
  · rw [beq_iff_eq] at h
    exact Or.inr (Or.inl ⟨rfl, h⟩)
  · rw [beq_iff_eq] at h
    exact Or.inr (Or.inr ⟨rfl, h⟩)
  · cases h
set_option maxHeartbeats 2000000 in
theorem rG_ok (hO : rOk ρ fs) (hn : fs.length < 60000) {h : rH} {hc : mH} (hh : rHr c0 ρ h hc) {i : Instr} {o1 o2 : Nat} {v : Value} {st stc st' : List Value} {fs' : rF} (hs : rEs ρ st = some stc) (hg : rG fs i o1 o2 v st h = some (fs', st')) : ∃ stc', mG i o1 o2 v stc hc = some stc' ∧ ∃ e, rOk (ρ ++ e) fs' ∧ rEs (ρ ++ e) st' = some stc' := by
  have exa : ∀ {st'' : List Value} {f'' : rF}, (if rExa v = true then some (fs, v :: st) else none) = some (f'', st'') → ∃ e, rOk (ρ ++ e) f'' ∧ rEs (ρ ++ e) st'' = some (v :: stc) := fun {st'' f''} h => by
    split at h
    · rename_i hv
      cases h
      exact rSame hO (rEs_mk (rEx_ok hv) hs)
    · cases h
  unfold rG at hg
  split at hg
  · split at hg
    · rename_i a r
      split at hg
      · rename_i ci gs hcell
        split at hg
        · rename_i hci
          cases hx : gs[o2]? with
          | none => rw [hx] at hg; cases hg
          | some x =>
            rw [hx] at hg
            cases hg
            obtain ⟨d, rd, hd, hr, rfl⟩ := rEs_cons hs
            cases hd
            obtain ⟨cc, c1, c2⟩ := hh.2.1 _ _ hcell
            obtain ⟨g, e1, e2⟩ := c2.obj hci.2
            obtain ⟨y, y1, y2⟩ := rEs_get e1 hx
            rw [e2] at c1
            refine ⟨y :: rd, ?_, rSame hO (rEs_mk ?_ hr)⟩
            · show (match hc[a]? with
                | some (some (.inr (ci, fs))) => if ci = o1 then (fs[o2]?).map (fun x => x :: rd) else none
                | _ => none) = _
              rw [c1]
              show (if ci = o1 then (g[o2]?).map (fun x => x :: rd) else none) = _
              rw [if_pos hci.1, y1]
              rfl
            · cases hk : rKi fs (some x) with
              | none => exact y2
              | some w =>
                obtain ⟨w', hw, hk2⟩ := rKi_ok hO hk
                cases hw
                exact (hk2 y y2).1
        · cases hg
      · cases hg
    · rename_i j r
      split at hg
      · rename_i q hq
        split at hg
        · rename_i hb
          split at hg
          · rename_i z hz
            cases hg
            obtain ⟨d, rd, hd, hr, rfl⟩ := rEs_cons hs
            obtain ⟨t, t1, t2, t3⟩ := hO.2.1 _ _ hq
            rw [rE_r, t1] at hd
            cases hd
            obtain ⟨gs, x, g1, g2, g3, g4⟩ := rHull_ok hh _ _ _ hz t.toNat (by omega) (by omega)
            refine ⟨.int x :: rd, ?_, rPut hO hn hr (fun _ _ => ⟨g3, g4⟩)⟩
            show (match hc[t.toNat]? with
              | some (some (.inr (ci, fs))) => if ci = o1 then (fs[o2]?).map (fun x => x :: rd) else none
              | _ => none) = _
            rw [g1]
            show (if o1 = o1 then (gs[o2]?).map (fun x => x :: rd) else none) = _
            rw [if_pos rfl, g2]
            rfl
          · cases hg
        · cases hg
      · cases hg
    · cases hg
  · exact ⟨_, rfl, exa hg⟩
  · exact ⟨_, rfl, exa hg⟩
  · exact ⟨_, rfl, exa hg⟩
  · exact ⟨_, rfl, exa hg⟩
  · split at hg
    · rename_i x a r
      split at hg
      · rename_i n l u hcell
        split at hg
        · rename_i hx
          cases hg
          obtain ⟨d, rd, hd, hr, rfl⟩ := rEs_cons hs
          obtain ⟨e, re, he, hr2, rfl⟩ := rEs_cons hr
          cases he
          obtain ⟨k, rfl, k2⟩ := rIx_ok hO hd hx
          obtain ⟨cc, c1, c2⟩ := hh.2.1 _ _ hcell
          obtain ⟨f, f1, f2⟩ := c2.lng
          rw [f1] at c1
          obtain ⟨f3, f4⟩ := f2 _ (rIn_lt k2)
          refine ⟨.long (f k.toNatClampNeg) :: re, ?_, rPutl hO hn hr2 f3 f4⟩
          show (match hc[a]? with
            | some (some (.inl (1, n, .inr (.inl f)))) => if mIn k n = true then some (Value.long (f k.toNatClampNeg) :: re) else none
            | _ => none) = _
          rw [c1]
          exact if_pos k2
        · cases hg
      · cases hg
    · cases hg
  · split at hg
    · rename_i k a r
      split at hg
      · rename_i n l u hcell
        split at hg
        · rename_i hx
          cases hg
          obtain ⟨d, rd, hd, hr, rfl⟩ := rEs_cons hs
          obtain ⟨e, re, he, hr2, rfl⟩ := rEs_cons hr
          cases hd
          cases he
          obtain ⟨cc, c1, c2⟩ := hh.2.1 _ _ hcell
          obtain ⟨f, f1, f2⟩ := c2.rfs
          rw [f1] at c1
          refine ⟨.ref (l.toNat + k.toNatClampNeg) :: re, ?_, rSame hO (rEs_mk rfl hr2)⟩
          show (match hc[a]? with
            | some (some (.inl (6, n, .inr (.inr (.inr (.inr f)))))) => if mIn k n = true then (f k.toNatClampNeg).map (fun q => Value.ref q :: re) else none
            | _ => none) = _
          rw [c1]
          show (if mIn k n = true then (f k.toNatClampNeg).map (fun q => Value.ref q :: re) else none) = _
          rw [if_pos hx, f2 _ (rIn_lt hx)]
          rfl
        · cases hg
      · cases hg
    · cases hg
  · split at hg
    · rename_i a r
      split at hg
      · rename_i k n l u hcell
        split at hg
        · rename_i hk
          cases hg
          obtain ⟨d, rd, hd, hr, rfl⟩ := rEs_cons hs
          cases hd
          obtain ⟨cc, c1, c2⟩ := hh.2.1 _ _ hcell
          refine ⟨.int (Int32.ofNat n) :: rd, ?_, rSame hO (rEs_mk rfl hr)⟩
          show mG .arraylength o1 o2 v (.ref a :: rd) hc = _
          unfold mG
          dsimp only
          by_cases h1 : k = 1
          · subst h1
            obtain ⟨f, f1, -⟩ := c2.lng
            rw [c1, f1]
            rfl
          · by_cases h6 : k = 6
            · subst h6
              obtain ⟨f, f1, -⟩ := c2.rfs
              rw [c1, f1]
              rfl
            · obtain ⟨f, f1, -⟩ := c2.int h1 h6
              rw [c1, f1]
              have : k = 0 ∨ k = 2 ∨ k = 3 ∨ k = 4 ∨ k = 7 := by omega
              rcases this with rfl | rfl | rfl | rfl | rfl <;> rfl
        · cases hg
      · cases hg
    · cases hg
  · rename_i i _ _ _ _ _ _ _ _
    split at hg
    · rename_i x a r
      split at hg
      · rename_i k n l u hcell
        split at hg
        · rename_i hk
          cases hg
          obtain ⟨d, rd, hd, hr, rfl⟩ := rEs_cons hs
          obtain ⟨e, re, he, hr2, rfl⟩ := rEs_cons hr
          cases he
          obtain ⟨kx, rfl, k2⟩ := rIx_ok hO hd hk.2
          obtain ⟨cc, c1, c2⟩ := hh.2.1 _ _ hcell
          have hk0 := rAk_ok hk.1
          have hk1 : ¬ k = 1 := by rcases hk0 with ⟨-, h | h⟩ | ⟨-, h⟩ | ⟨-, h | h⟩ <;> omega
          have hk6 : ¬ k = 6 := by rcases hk0 with ⟨-, h | h⟩ | ⟨-, h⟩ | ⟨-, h | h⟩ <;> omega
          obtain ⟨f, f1, f2⟩ := c2.int hk1 hk6
          rw [f1] at c1
          obtain ⟨f3, f4⟩ := f2 _ (rIn_lt k2)
          refine ⟨.int (f kx.toNatClampNeg) :: re, ?_, rPut hO hn hr2 (fun _ _ => ⟨f3, f4⟩)⟩
          rcases hk0 with ⟨rfl, rfl | rfl⟩ | ⟨rfl, rfl⟩ | ⟨rfl, rfl | rfl⟩
          all_goals
            unfold mG
            dsimp only
            rw [c1]
            exact if_pos k2
        · cases hg
      · cases hg
    · cases hg
end RG
