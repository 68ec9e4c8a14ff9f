/-! THE LAW'S LOOP -/
def nAn : List rR := [(nTf, .inl (some (.int 1)), nT.2.2.2.2)]
theorem eS_len {k0 : Nat} {dflt : Nat → List Value} {o : Nat × Nat × Nat × Value} {pc a L : Nat} {lv : mL} {r : List Value} {h : mH} {f : Nat → Int32} (hc : h[a]? = some (some (.inl (4, L, .inl f)))) : eS k0 dflt (.arraylength, o) pc lv (.ref a :: r) h = some (pc + 1, lv, .int (Int32.ofNat L) :: r, h) := by
  have e1 : mG .arraylength o.1 o.2.1 o.2.2.2 (.ref a :: r) h = some (.int (Int32.ofNat L) :: r) := by
    unfold mG
    dsimp only
    rw [hc]
    rfl
  simp [eS, mRt, mTh, mNw, mCl, mIv, mNx, mA, mB, mD, mJ, e1, mLen]
theorem rOfN {n : Nat} (h : n ≤ 10000) : (Int32.ofNat n).toInt = n := by
  have e : Int32.ofNat n = Int32.ofInt n := rfl
  rw [e]
  exact rInt (by unfold rI0; omega) (by unfold rI1; omega)
/-- the numbers of a window -/
def nWv (f : Nat → Int32) (i : Nat) : List Int := [(f i).toInt, (f (i + 1)).toInt, (f (i + 2)).toInt, (f (i + 3)).toInt, (f (i + 4)).toInt, (((f (i + 1)).toInt64 <<< 32) ||| ((f (i + 2)).toInt64 &&& 4294967295)).toInt, (rGb (((f (i + 1)).toInt64 <<< 32) ||| ((f (i + 2)).toInt64 &&& 4294967295)) : Int)]
theorem rOk_w {ρ : List Int} {fs : rF} (hO : rOk ρ fs) (f : Nat → Int32) (i : Nat) : rOk (ρ ++ nWv f i) (fs ++ nWf) := by
  have b := fun x : Int32 => rAny x (Int.le_refl _) (Int.le_refl _)
  have l := fun x : Int64 => rAnyL x
  have h1 := hO.push (b (f i)).1 (b (f i)).2 (by decide) (by decide)
  have h2 := h1.push (b (f (i + 1))).1 (b (f (i + 1))).2 (by decide) (by decide)
  have h3 := h2.push (b (f (i + 2))).1 (b (f (i + 2))).2 (by decide) (by decide)
  have h4 := h3.push (b (f (i + 3))).1 (b (f (i + 3))).2 (by decide) (by decide)
  have h5 := h4.push (b (f (i + 4))).1 (b (f (i + 4))).2 (by decide) (by decide)
  have h6 := h5.push (l (((f (i + 1)).toInt64 <<< 32) ||| ((f (i + 2)).toInt64 &&& 4294967295))).1 (l _).2 (by decide) (by decide)
  have g8 := rGb_le (((f (i + 1)).toInt64 <<< 32) ||| ((f (i + 2)).toInt64 &&& 4294967295))
  have h7 := h6.push (z := (rGb (((f (i + 1)).toInt64 <<< 32) ||| ((f (i + 2)).toInt64 &&& 4294967295)) : Int)) (l := 0) (u := 8) (by omega) (by omega) (by decide) (by decide)
  simp only [List.append_assoc, List.cons_append, List.nil_append] at h7
  exact h7
theorem rE_at {ρ : List Int} {id : Nat} {x : Int32} (hid : id < 60000) (h : ρ[id]? = some x.toInt) : rE ρ (rMk id 0) = some (.int x) := by
  obtain ⟨b, e1, e2, e3⟩ := rMk_id (id := id) (off := 0) hid (by omega) (by omega)
  rw [e1, rE_f, e2, e3, h]
  show some (Value.int (Int32.ofInt (x.toInt + 0))) = _
  rw [Int.add_zero, Int32.ofInt_toInt]
theorem rW_at {ρ w : List Int} {n j : Nat} (hn : ρ.length = n) : (ρ ++ w)[n + j]? = w[j]? := by
  rw [List.getElem?_append_right (by omega)]
  congr 1
  omega
theorem nTf_len : nTf.length = 89 := by decide
theorem nT_win : nWin nT.2.2.2.2.1 = some [rMk 0 0, rMk 81 0, rMk 82 0, rMk 83 0, rMk 84 0, rMk 85 0, rMk 86 0, .double 87, rMk 88 0] := rfl
theorem nT_0 : rRg nTf (rMk 0 0) = some (5, 2560) := by decide
theorem nT_8 : rRg nTf (rMk 8 0) = some (0, 2560) := by decide
/-- the window at i -/
theorem nWc_ok {ρ : List Int} {f : Nat → Int32} {L : Nat} {x : Int32} (hn : ρ.length = 89) (hL : L ≤ 10000) (h0 : 0 ≤ x.toInt) (h5 : x.toInt + 5 ≤ L) (r0 : rE ρ (rMk 0 0) = some (.int (Int32.ofNat L))) (r8 : rE ρ (rMk 8 0) = some (.int x)) : rCr (ρ ++ nWv f x.toInt.toNat) (some nWc) (some (.inl (4, L, .inl f))) := by
  have g8 := rGb_le (((f (x.toInt.toNat + 1)).toInt64 <<< 32) ||| ((f (x.toInt.toNat + 2)).toInt64 &&& 4294967295))
  have a := fun (j : Nat) (y : Int32) (hj : j < 100) (hy : (nWv f x.toInt.toNat)[j]? = some y.toInt) => rE_at (ρ := ρ ++ nWv f x.toInt.toNat) (id := 89 + j) (x := y) (by omega) ((rW_at hn).trans hy)
  have k0 := a 0 (f x.toInt.toNat) (by decide) rfl
  have k1 := a 1 (f (x.toInt.toNat + 1)) (by decide) rfl
  have k2 := a 2 (f (x.toInt.toNat + 2)) (by decide) rfl
  have k3 := a 3 (f (x.toInt.toNat + 3)) (by decide) rfl
  have k4 := a 4 (f (x.toInt.toNat + 4)) (by decide) rfl
  have k6 := a 6 (Int32.ofNat (rGb (((f (x.toInt.toNat + 1)).toInt64 <<< 32) ||| ((f (x.toInt.toNat + 2)).toInt64 &&& 4294967295)))) (by decide) (by rw [rG8 g8]; rfl)
  have k5 : rE (ρ ++ nWv f x.toInt.toNat) (.double 94) = some (.long (((f (x.toInt.toNat + 1)).toInt64 <<< 32) ||| ((f (x.toInt.toNat + 2)).toInt64 &&& 4294967295))) := by
    have e : (ρ ++ nWv f x.toInt.toNat)[(94 : UInt64).toNat]? = some (((f (x.toInt.toNat + 1)).toInt64 <<< 32) ||| ((f (x.toInt.toNat + 2)).toInt64 &&& 4294967295)).toInt := (rW_at (n := 89) (j := 5) hn)
    rw [rE_d, e]
    show some (Value.long (Int64.ofInt _)) = _
    rw [Int64.ofInt_toInt]
  exact ⟨_, rEs_mk (rE_ext _ r0) (rEs_mk (rE_ext _ r8) (rEs_mk k0 (rEs_mk k1 (rEs_mk k2 (rEs_mk k3 (rEs_mk k4 (rEs_mk k5 (rEs_mk k6 rfl)))))))), L, f, x, _, _, _, _, _, rfl, hL, h0, h5, rfl, rfl, rfl, rfl, rfl, rfl⟩
section TN
variable {c0 : mH} {v5 : Value} {call : Nat → List Value → mH → Option (mO × mH)}
theorem nLl_p (v5 : Value) : rAllP (nCodw v5) nMxx' nLL := by
  unfold nLL rAllP
  repeat' first | exact trivial | refine ⟨⟨rfl, rfl⟩, ?_⟩ | unfold rAllP
theorem nTl_p (v5 : Value) (h5 : nFv v5) : rAllC (rCon 158 nDflt (mP' (nCodw v5)) nHn nMxx') nTL := ⟨⟨nR107 v5 h5, trivial⟩, ⟨nR22 v5 h5, trivial⟩, ⟨nR133 v5 h5, trivial⟩, ⟨nR163 v5 h5, trivial⟩, ⟨nR164 v5 h5, trivial⟩, ⟨nR165 v5 h5, trivial⟩, ⟨nR166 v5 h5, trivial⟩, ⟨nR167 v5 h5, trivial⟩, ⟨nR168 v5 h5, trivial⟩, ⟨nR169 v5 h5, trivial⟩, ⟨nR170 v5 h5, trivial⟩, ⟨nR171 v5 h5, trivial⟩, ⟨nR172 v5 h5, trivial⟩, ⟨nR173 v5 h5, trivial⟩, ⟨nR174 v5 h5, trivial⟩, ⟨nR175 v5 h5, trivial⟩, ⟨nR176 v5 h5, trivial⟩, ⟨nR177 v5 h5, trivial⟩, ⟨nR178 v5 h5, trivial⟩, ⟨nR179 v5 h5, trivial⟩, ⟨nR180 v5 h5, trivial⟩, ⟨nR181 v5 h5, trivial⟩, trivial⟩
theorem nEm_ok {α : Type} {o : Option (List α)} (h : nEm o = true) : o = some [] := by
  unfold nEm at h
  split at h
  · rfl
  · cases h
set_option maxRecDepth 20000 in
set_option maxHeartbeats 1000000 in
theorem nBody (h5 : nFv v5) (hcl : ∀ ce as h r, call ce as h = some r ↔ ∃ n, evM 158 nDflt (mP' (nCodw v5)) nHn nMxx' 15 n ce as h = some r) {ρh : List Int} {lc : mL} {hc : mH} (hO : rOk ρh nTf) (hre : rRe c0 ρh nT lc hc) (hk : rK c0 [] nAn (fun n => evF 158 nDflt (mP' (nCodw v5)) nHn 16 call n 0) (23, nT, nLp, 8) ρh) : rAns c0 [] nAn (fun n => evF 158 nDflt (mP' (nCodw v5)) nHn 16 call n 0) 23 lc [] hc := by
  obtain ⟨⟨l, hl, hsub⟩, hh⟩ := hre
  have hlen : ρh.length = 89 := hO.1.trans nTf_len
  have hl' : rEv ρh [(4, rMk 8 0), (0, .ref 0), (1, .ref 158), (2, .ref 183), (3, .ref 205)] = some l := hl
  obtain ⟨_, l1, r8, hl1, e1⟩ := rEv_cons hl'
  cases hl1
  obtain ⟨x, rfl, x0, x1⟩ := rRg_ok hO nT_8 r8
  dsimp only at x0 x1 e1
  subst e1
  obtain ⟨L, f, b, w1, w2, w3, w4, w5, w6, w7, w8⟩ := nWin_ok hh nT_win
  obtain ⟨y, hy, y0, y1⟩ := rRg_ok hO nT_0 w5
  cases hy
  rw [rOfN w2] at y0 y1
  dsimp only at y0 y1
  have hC : nCodw v5 0 = nC0 := rfl
  have hs5 : rSubl (cL5 (.ref 158) (.ref 183) (.ref 205) x) lc := rSub5 (hsub.ld rfl) (hsub.ld rfl) (hsub.ld rfl) (hsub.ld rfl) (hsub.ld rfl)
  have s0 : eW (fun n => evF 158 nDflt (mP' (nCodw v5)) nHn 16 call n 0) 23 lc [] hc 23 (cL5 (.ref 158) (.ref 183) (.ref 205) x) [] hc := eW.lv hs5
  have s1 := eW.r (k0 := 158) (dflt := nDflt) (Hn := nHn) (dp := 16) (call := call) (mP'_ok hC) 2 (show eR 158 nDflt nC0 2 23 (cL5 (.ref 158) (.ref 183) (.ref 205) x) [] hc = some (26, cL5 (.ref 158) (.ref 183) (.ref 205) x, [.ref 0, .int x], hc) from rfl)
  have s2 := eW.e (k0 := 158) (dflt := nDflt) (Hn := nHn) (dp := 16) (call := call) (mP'_ok hC 26 _ rfl) (eS_len (k0 := 158) (dflt := nDflt) (o := (0, 0, 0, .null)) (pc := 26) (lv := cL5 (.ref 158) (.ref 183) (.ref 205) x) (r := [.int x]) w1)
  have s3 := eW.r (k0 := 158) (dflt := nDflt) (Hn := nHn) (dp := 16) (call := call) (mP'_ok hC) 2 (show eR 158 nDflt nC0 2 27 (cL5 (.ref 158) (.ref 183) (.ref 205) x) [.int (Int32.ofNat L), .int x] hc = some (29, cL5 (.ref 158) (.ref 183) (.ref 205) x, [.int (Int32.ofNat L - Int32.ofInt 5), .int x], hc) from rfl)
  have t1 := ((s0.trans s1).trans s2).trans s3
  have e5 : (Int32.ofInt 5).toInt = 5 := by decide
  have eL : (Int32.ofNat L - Int32.ofInt 5).toInt = L - 5 := by
    rw [rSub_ok (by rw [rOfN w2, e5]; unfold rI0; omega) (by rw [rOfN w2, e5]; unfold rI1; omega), rOfN w2, e5]
  by_cases hx : (L : Int) - 5 < x.toInt
  · have s4 := eW.icmp (k0 := 158) (dflt := nDflt) (P := mP' (nCodw v5)) (Hn := nHn) (dp := 16) (call := call) (lv := cL5 (.ref 158) (.ref 183) (.ref 205) x) (h := hc) (r := []) (mP'_ok hC 29 _ rfl) ((cGt32 x (Int32.ofNat L - Int32.ofInt 5)).trans (decide_eq_true (by rw [eL]; exact hx))) (show mBr true 29 611 [] = some (640, []) from rfl)
    have s5 := eW.r (k0 := 158) (dflt := nDflt) (Hn := nHn) (dp := 16) (call := call) (mP'_ok hC) 1 (show eR 158 nDflt nC0 1 640 (cL5 (.ref 158) (.ref 183) (.ref 205) x) [] hc = some (641, cL5 (.ref 158) (.ref 183) (.ref 205) x, [.int 1], hc) from rfl)
    have fin : ∃ n, evF 158 nDflt (mP' (nCodw v5)) nHn 16 call n 0 641 (cL5 (.ref 158) (.ref 183) (.ref 205) x) [.int 1] hc = some (.inl (some (.int 1)), hc) := by
      refine ⟨1, ?_⟩
      conv => lhs; unfold evF
      rw [mP'_ok hC 641 _ rfl]
      rfl
    exact ⟨_, List.mem_cons_self, ρh, hO, _, hc, ⟨_, rfl, rfl⟩, hh, ((t1.trans s4).trans s5) _ fin⟩
  · have s4 := eW.icmp (k0 := 158) (dflt := nDflt) (P := mP' (nCodw v5)) (Hn := nHn) (dp := 16) (call := call) (lv := cL5 (.ref 158) (.ref 183) (.ref 205) x) (h := hc) (r := []) (mP'_ok hC 29 _ rfl) ((cGt32 x (Int32.ofNat L - Int32.ofInt 5)).trans (decide_eq_false (by rw [eL]; exact hx))) (show mBr false 29 611 [] = some (32, []) from rfl)
    have hsl : rSubl ((4, .int x) :: [(0, .ref 0), (1, .ref 158), (2, .ref 183), (3, .ref 205)]) (cL5 (.ref 158) (.ref 183) (.ref 205) x) := by
      intro q hq
      simp only [List.mem_cons, List.not_mem_nil, or_false] at hq
      rcases hq with rfl | rfl | rfl | rfl | rfl <;> rfl
    have s5 : eW (fun n => evF 158 nDflt (mP' (nCodw v5)) nHn 16 call n 0) 32 (cL5 (.ref 158) (.ref 183) (.ref 205) x) [] hc 32 ((4, .int x) :: [(0, .ref 0), (1, .ref 158), (2, .ref 183), (3, .ref 205)]) [] hc := eW.lv hsl
    have h5' : x.toInt + 5 ≤ L := by omega
    obtain ⟨z, z1, z2, z3⟩ := hO.2.1 8 (0, 2560) rfl
    have hz : z = x.toInt := by
      obtain ⟨b8, e1, e2, e3⟩ := rMk_id (id := 8) (off := 0) (by omega) (by omega) (by omega)
      rw [e1, rE_f, e2, e3, z1] at r8
      have r8' : Int32.ofInt (z + 0) = x := by injection r8 with r8; injection r8
      rw [← r8', Int.add_zero]
      exact (rInt (by unfold rI0; omega) (by unfold rI1; omega)).symm
    have hO1 : rOk ρh (nTf.set 8 (0, 2555)) := hO.cut z1 (by dsimp only at z2 ⊢; omega) (by dsimp only; omega) (rCd_real (by decide) (by decide) _)
    have hO2 := rOk_w hO1 f x.toInt.toNat
    have hh2 := (rHr_ext (nWv f x.toInt.toNat) hh).set (a' := nWc) (c := some (.inl (4, L, .inl f))) 0 (b' := .inr (1002, [rMk 0 0, rMk 81 0, rMk 82 0, rMk 83 0, rMk 84 0, rMk 85 0, rMk 86 0, .double 87, rMk 88 0])) rfl (nWc_ok hlen w2 x0 h5' w5 r8)
    rw [rSet_same w1] at hh2
    have hcs : rCs' c0 (rCall 158 (rLk nLL) nHn (rHl nHL) nJ1 nOr1 (rTab nTL) (rLm nLL) 3000 15) call := fun ρ ce as fs h rs asc hc h1 h2 h3 h4 => by
      obtain ⟨r, r1, ex, r2, oc, hc', r3, r4, r5⟩ := rCall_ok (c0 := c0) (by decide) (rLk_ok (nLl_p v5)) (rLm_ok (nLl_p v5)) (nHk1 v5) (rTab_ok (nTl_p v5 h5)) 15 15 (Nat.le_refl _) ρ ce as fs h rs asc hc h1 h2 h3 h4
      exact ⟨r, r1, ex, r2, oc, hc', r3, r4, (hcl _ _ _ _).mpr r5⟩
    obtain ⟨lf, lf1, lf2⟩ := nLawV
    unfold nLF at lf1
    obtain ⟨q, q1, q2⟩ := rTw_ok (c0 := c0) (dflt := nDflt) (rLk_ok (nLl_p v5)) (Nat.le_refl 16) hcs 8 (by decide) (s := nS0) (ρ := ρh ++ nWv f x.toInt.toNat) (lc := (4, .int x) :: [(0, .ref 0), (1, .ref 158), (2, .ref 183), (3, .ref 205)]) (stc := []) (hc := hc) (by decide) lf1 hO2 (rEv_ext _ hl) rfl hh2
    have hq := lf2 q q1
    cases q with
    | inr r => cases hq
    | inl t =>
      obtain ⟨ex, k1, lc', stc', hc', k2, k3, k4, j, k5⟩ := q2
      unfold nLP at hq
      dsimp only at hq
      rw [Bool.and_eq_true, decide_eq_true_eq] at hq
      have hrun := nEm_ok hq.2
      have hans := rRun_ok (c0 := c0) (dflt := nDflt) (rLk_ok (nLl_p v5)) (Nat.le_refl 16) hcs ((nHk1 v5).1 15 15 call c0 (Nat.le_refl _) hcl) 3000 (by decide) (ρ0 := []) (O := nAn) (s := t) (by have := hq.1; omega) hrun (fun r hr => by cases hr) ⟨_, (List.nil_append _).symm⟩ k1 k2 k3 k4 (fun c hc3 => by
        rcases List.mem_cons.mp hc3 with rfl | hc3
        · exact ⟨ρh, ⟨_, List.append_assoc _ _ _⟩, by dsimp only; omega, hk⟩
        · cases hc3)
      have h32 : rAns c0 [] nAn (fun n => evF 158 nDflt (mP' (nCodw v5)) nHn 16 call n 0) 32 ((4, .int x) :: [(0, .ref 0), (1, .ref 158), (2, .ref 183), (3, .ref 205)]) [] hc := hans.back (fun r hr => by
        obtain ⟨n, hr⟩ := hr
        exact ⟨n + j, (k5 n).trans hr⟩)
      exact h32.back ((t1.trans s4).trans s5)
/-- from the loop's first turn on -/
theorem nAll' (h5 : nFv v5) (hcl : ∀ ce as h r, call ce as h = some r ↔ ∃ n, evM 158 nDflt (mP' (nCodw v5)) nHn nMxx' 15 n ce as h = some r) {ρ : List Int} {lc : mL} {hc : mH} (hO : rOk ρ nEs.1) (hl : rEv ρ nEs.2.2.1 = some lc) (hh : rHr c0 ρ nEs.2.2.2.2 hc) : rAns c0 [] nAn (fun n => evF 158 nDflt (mP' (nCodw v5)) nHn 16 call n 0) 23 lc [] hc := by
  have hin := nInV
  unfold nIn at hin
  split at hin
  · rename_i vs hvs
    simp only [Bool.and_eq_true] at hin
    obtain ⟨⟨⟨i1, i2⟩, i3⟩, i4⟩ := hin
    have i2' := i2
    unfold rFits at i2'
    simp only [Bool.and_eq_true] at i2'
    obtain ⟨ve, hve⟩ := rAts_ok hl hh hvs i2'.1.1.1.2
    have hn : nEs.1.length ≤ ρ.length := by rw [hO.1]; exact Nat.le_refl _
    have hre := rFits_ok hO hl hh hn hve i2
    have et : ρ.take nEs.1.length = ρ := by rw [← hO.1, List.take_length]
    rw [et] at hre
    exact rLoop_ok (s := nEs) (t := nT) (lp := nLp) hO hve (of_decide_eq_true i1) i3 i4 hre (fun zs lc2 hc2 hok hre2 hk => nBody h5 hcl hok hre2 hk)
  · cases hin
end TN
