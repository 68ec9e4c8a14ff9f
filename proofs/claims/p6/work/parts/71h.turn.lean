/-! ONE TURN, and the loop -/
section TN
variable {v5 : Value} {call : Nat → List Value → mH → Option (mO × mH)}
theorem nCk_nL : ∀ l1 l2, nLF = some l1 → nLF = some l2 → l1 = l2 := fun l1 l2 a b => by
  rw [a] at b
  exact Option.some.inj b
set_option maxRecDepth 20000 in
set_option maxHeartbeats 1000000 in
theorem nBody (h5 : nFv v5) (hcl : ∀ ce as h r, call ce as h = some r ↔ ∃ n, evM 158 nDflt (mP' (nCodw v5)) nHn nMxx' 15 n ce as h = some r) {ρh : List Int} {lc : mL} {hc : mH} (hO : rOk ρh nTf) (hQ : nQ ρh lc hc) (hk : ∀ zs' lc' hc', nQ (ρh.take 8 ++ zs') lc' hc' → rPo2 (23, nT, nLp, 8) ρh zs' → nA v5 call lc' hc') : nA v5 call lc hc := by
  obtain ⟨hre, hz, ⟨tf, len, hx, ht⟩, hkc, hks⟩ := hQ
  obtain ⟨⟨l, hl, hsub⟩, hh⟩ := hre
  have hlen : ρh.length = 82 := hO.1.trans nTf_len
  have hl' : rEv ρh [(4, rMk 8 0), (0, .ref 0), (1, .ref 158), (2, .ref 183), (3, .ref 205)] = some l := hl
  obtain ⟨_, l1, r8, hl1, e1⟩ := rEv_cons hl'
  cases hl1
  obtain ⟨x, rfl, x0, x1⟩ := rRg_ok hO nT_8 r8
  dsimp only at x0 x1 e1
  subst e1
  obtain ⟨L, f, b, w1, w2, w3, w4, w5, w6, w7, w8⟩ := nWin_ok hh nT_win
  obtain ⟨y, hy, y0, y1⟩ := rRg_ok hO nT_0 w5
  cases hy
  rw [rOfN w2] at y0 y1
  dsimp only at y0 y1
  have hC : nCodw v5 0 = nC0 := rfl
  have hs5 : rSubl (cL5 (.ref 158) (.ref 183) (.ref 205) x) lc := rSub5 (hsub.ld rfl) (hsub.ld rfl) (hsub.ld rfl) (hsub.ld rfl) (hsub.ld rfl)
  have s0 : eW (fun n => evF 158 nDflt (mP' (nCodw v5)) nHn 16 call n 0) 23 lc [] hc 23 (cL5 (.ref 158) (.ref 183) (.ref 205) x) [] hc := eW.lv hs5
  have s1 := eW.r (k0 := 158) (dflt := nDflt) (Hn := nHn) (dp := 16) (call := call) (mP'_ok hC) 2 (show eR 158 nDflt nC0 2 23 (cL5 (.ref 158) (.ref 183) (.ref 205) x) [] hc = some (26, cL5 (.ref 158) (.ref 183) (.ref 205) x, [.ref 0, .int x], hc) from rfl)
  have s2 := eW.e (k0 := 158) (dflt := nDflt) (Hn := nHn) (dp := 16) (call := call) (mP'_ok hC 26 _ rfl) (eS_len (k0 := 158) (dflt := nDflt) (o := (0, 0, 0, .null)) (pc := 26) (lv := cL5 (.ref 158) (.ref 183) (.ref 205) x) (r := [.int x]) w1)
  have s3 := eW.r (k0 := 158) (dflt := nDflt) (Hn := nHn) (dp := 16) (call := call) (mP'_ok hC) 2 (show eR 158 nDflt nC0 2 27 (cL5 (.ref 158) (.ref 183) (.ref 205) x) [.int (Int32.ofNat L), .int x] hc = some (29, cL5 (.ref 158) (.ref 183) (.ref 205) x, [.int (Int32.ofNat L - Int32.ofInt 5), .int x], hc) from rfl)
  have t1 := ((s0.trans s1).trans s2).trans s3
  have e5 : (Int32.ofInt 5).toInt = 5 := by decide
  have eL : (Int32.ofNat L - Int32.ofInt 5).toInt = L - 5 := by
    rw [rSub_ok (by rw [rOfN w2, e5]; unfold rI0; omega) (by rw [rOfN w2, e5]; unfold rI1; omega), rOfN w2, e5]
  by_cases hxx : (L : Int) - 5 < x.toInt
  · have s4 := eW.icmp (k0 := 158) (dflt := nDflt) (P := mP' (nCodw v5)) (Hn := nHn) (dp := 16) (call := call) (lv := cL5 (.ref 158) (.ref 183) (.ref 205) x) (h := hc) (r := []) (mP'_ok hC 29 _ rfl) ((cGt32 x (Int32.ofNat L - Int32.ofInt 5)).trans (decide_eq_true (by rw [eL]; exact hxx))) (show mBr true 29 611 [] = some (640, []) from rfl)
    have s5 := eW.r (k0 := 158) (dflt := nDflt) (Hn := nHn) (dp := 16) (call := call) (mP'_ok hC) 1 (show eR 158 nDflt nC0 1 640 (cL5 (.ref 158) (.ref 183) (.ref 205) x) [] hc = some (641, cL5 (.ref 158) (.ref 183) (.ref 205) x, [.int 1], hc) from rfl)
    have fin : ∃ n, evF 158 nDflt (mP' (nCodw v5)) nHn 16 call n 0 641 (cL5 (.ref 158) (.ref 183) (.ref 205) x) [.int 1] hc = some (.inl (some (.int 1)), hc) := by
      refine ⟨1, ?_⟩
      conv => lhs; unfold evF
      rw [mP'_ok hC 641 _ rfl]
      rfl
    exact ⟨_, List.mem_cons_self, ρh, hO, _, hc, ⟨_, rfl, rfl⟩, rHr_thk hh hx ht hkc, ((t1.trans s4).trans s5) _ fin⟩
  · have s4 := eW.icmp (k0 := 158) (dflt := nDflt) (P := mP' (nCodw v5)) (Hn := nHn) (dp := 16) (call := call) (lv := cL5 (.ref 158) (.ref 183) (.ref 205) x) (h := hc) (r := []) (mP'_ok hC 29 _ rfl) ((cGt32 x (Int32.ofNat L - Int32.ofInt 5)).trans (decide_eq_false (by rw [eL]; exact hxx))) (show mBr false 29 611 [] = some (32, []) from rfl)
    have hsl : rSubl ((4, .int x) :: [(0, .ref 0), (1, .ref 158), (2, .ref 183), (3, .ref 205)]) (cL5 (.ref 158) (.ref 183) (.ref 205) x) := by
      intro q hq
      simp only [List.mem_cons, List.not_mem_nil, or_false] at hq
      rcases hq with rfl | rfl | rfl | rfl | rfl <;> rfl
    have s5 : eW (fun n => evF 158 nDflt (mP' (nCodw v5)) nHn 16 call n 0) 32 (cL5 (.ref 158) (.ref 183) (.ref 205) x) [] hc 32 ((4, .int x) :: [(0, .ref 0), (1, .ref 158), (2, .ref 183), (3, .ref 205)]) [] hc := eW.lv hsl
    have h5' : x.toInt + 5 ≤ L := by omega
    obtain ⟨z, z1, z2, z3⟩ := hO.2.1 8 (0, 2560) rfl
    have hz8 : z = x.toInt := by
      obtain ⟨b8, e1, e2, e3⟩ := rMk_id (id := 8) (off := 0) (by omega) (by omega) (by omega)
      rw [e1, rE_f, e2, e3, z1] at r8
      have r8' : Int32.ofInt (z + 0) = x := by injection r8 with r8; injection r8
      rw [← r8', Int.add_zero]
      exact (rInt (by unfold rI0; omega) (by unfold rI1; omega)).symm
    have hO1 : rOk ρh (nTf.set 8 (0, 2555)) := hO.cut z1 (by dsimp only at z2 ⊢; omega) (by dsimp only; omega) (rCd_real (by decide) (by decide) _)
    have hO2 := rOk_w hO1 f x.toInt.toNat
    have hh2 := (rHr_ext (nWv f x.toInt.toNat) hh).set (a' := nWc) (c := some (.inl (4, L, .inl f))) 0 (b' := .inr (1002, [rMk 0 0, rMk 74 0, rMk 75 0, rMk 76 0, rMk 77 0, rMk 78 0, rMk 79 0, .double 80, rMk 81 0])) rfl (nWc_ok hlen w2 x0 h5' w5 r8)
    rw [rSet_same w1] at hh2
    have hcs : rCs' hc (rCall 158 (rLk nLL) nHn (rHl nHL) nJ1 nOr1 (rTab nTL) (rLm nLL) 3000 15) call := fun ρ ce as fs h rs asc hx1 h1 h2 h3 h4 => by
      obtain ⟨r, r1, ex, r2, oc, hc', r3, r4, r5⟩ := rCall_ok (c0 := hc) (by decide) (rLk_ok (nLl_p v5)) (rLm_ok (nLl_p v5)) (nHk1 v5) (rTab_ok (nTl_p v5 h5)) 15 15 (Nat.le_refl _) ρ ce as fs h rs asc hx1 h1 h2 h3 h4
      exact ⟨r, r1, ex, r2, oc, hc', r3, r4, (hcl _ _ _ _).mpr r5⟩
    obtain ⟨lf, lf1, lf2⟩ := nLawV
    obtain ⟨lg, lg1, lg2⟩ := nCkV
    have elg := nCk_nL _ _ lg1 lf1
    subst elg
    unfold nLF at lf1
    obtain ⟨q, q1, q2⟩ := rTw_ok (c0 := hc) (dflt := nDflt) (rLk_ok (nLl_p v5)) (Nat.le_refl 16) hcs 7 (by decide) (s := nS0) (ρ := ρh ++ nWv f x.toInt.toNat) (lc := (4, .int x) :: [(0, .ref 0), (1, .ref 158), (2, .ref 183), (3, .ref 205)]) (stc := []) (hc := hc) (by decide) lf1 hO2 (rEv_ext _ hl) rfl hh2
    have hq := lf2 q q1
    cases q with
    | inr r => cases hq
    | inl t =>
      obtain ⟨ex, k1, lc', stc', hc', k2, k3, k4, j, k5⟩ := q2
      have hck := lg2 _ q1
      have hρ2 : ∀ i v, ρh[i]? = some v → (ρh ++ nWv f x.toInt.toNat ++ ex)[i]? = some v := fun i v hv => by
        rw [List.append_assoc, List.getElem?_append_left (List.getElem?_eq_some_iff.mp hv).1]
        exact hv
      have h32b : ∀ {c1 : mH}, rAns c1 [] nAnk (WW v5 call) t.2.1 lc' stc' hc' → rAns c1 [] nAnk (WW v5 call) 23 lc [] hc := fun hans => (hans.back (fun r hr => by
        obtain ⟨n, hr⟩ := hr
        exact ⟨n + j, (k5 n).trans hr⟩)).back ((t1.trans s4).trans s5)
      obtain ⟨z26, e26, l26, u26⟩ := hO.2.1 26 (0, 240) (by rfl)
      dsimp only at l26 u26
      obtain ⟨z47, e47, l47, u47⟩ := hO.2.1 47 (0, 30) (by rfl)
      dsimp only at l47 u47
      have hkp := keep (l := nTh) nTh_ok hh hx hkc e26 e47
      have elen : len = Int32.ofInt z26 := (xTx_un hx hkp.1).2
      have ecnt : (zOf hc).1 15 2 = Int32.ofInt z47 := congrArg (fun q => q.1) hkp.2.2
      by_cases hpc : t.2.1 = 108 ∨ t.2.1 = 180 ∨ t.2.1 = 193 ∨ t.2.1 = 222
      · have hck' := hck
        unfold nCkk at hck'
        dsimp only at hck'
        simp only [Bool.and_eq_true, decide_eq_true_eq] at hck'
        obtain ⟨⟨hlv, hst⟩, hok, -⟩ := hck'
        rw [hst] at k3
        cases k3
        rw [hlv] at k2
        have k2' : lc' = nL x := by
          have e : rEv (ρh ++ nWv f x.toInt.toNat ++ ex) [(4, rMk 8 0), (0, .ref 0), (1, .ref 158), (2, .ref 183), (3, .ref 205)] = some (nL x) := rEv_mk (rE_at (by decide) (hρ2 8 _ (by rw [z1, hz8]))) rfl
          rw [e] at k2
          exact (Option.some.inj k2).symm
        subst k2'
        have hkp' := keep (l := t.2.2.2.2.1) (w := t.2.2.2.2.2) hok k4 hx hkc (hρ2 26 _ e26) (hρ2 47 _ e47)
        have hx' : xTx hc' tf len := by
          rw [elen]
          exact hkp'.1
        have hks' : yqS hc' := yqF_6 (hkp'.2.2.trans hkp.2.2.symm) hks
        refine h32b (hand h5 hcl (y := f (x.toInt.toNat + 3)) hck hpc k1 k4 ⟨_, List.append_assoc _ _ _⟩ hO.1 (hρ2 8 _ (by rw [z1, hz8])) ?_ hz hx' ht hkp'.2.1 hks' hk)
        have : (ρh ++ nWv f x.toInt.toNat)[82 + 3]? = some (f (x.toInt.toNat + 3)).toInt := rW_at (j := 3) hlen
        rw [List.getElem?_append_left (List.getElem?_eq_some_iff.mp this).1]
        exact this
      · unfold nLP at hq
        dsimp only at hq
        rw [Bool.and_eq_true, decide_eq_true_eq, if_neg hpc] at hq
        have hrun := nEm_ok hq.2
        refine h32b (rRun_ok (c0 := hc) (dflt := nDflt) (rLk_ok (nLl_p v5)) (Nat.le_refl 16) hcs ((nHk1 v5).1 15 15 call hc (Nat.le_refl _) hcl) 3000 (by decide) (ρ0 := []) (O := nAnk) (s := t) (by have := hq.1; omega) hrun (fun r hr => by cases hr) ⟨_, (List.nil_append _).symm⟩ k1 k2 k3 k4 (fun c hc3 => ?_))
        rcases List.mem_cons.mp hc3 with rfl | hc3
        · refine ⟨ρh, ⟨_, List.append_assoc _ _ _⟩, by dsimp only; omega, hO.1, fun zs lcn hcn hren hpo => ?_⟩
          obtain ⟨po, ⟨yy, zz, y1, y2, y3, y4⟩, ww, xx, x1', x2', x3', x4'⟩ := po_m hO hpo
          rw [e47] at x1'
          cases x1'
          rw [e26] at y1
          cases y1
          have hn26 : (ρh.take 8 ++ zs)[26]? = some zz := by
            rw [List.getElem?_append_right (by rw [List.length_take]; omega), List.length_take, show min 8 ρh.length = 8 by omega]
            exact y2
          have hn47 : (ρh.take 8 ++ zs)[47]? = some xx := by
            rw [List.getElem?_append_right (by rw [List.length_take]; omega), List.length_take, show min 8 ρh.length = 8 by omega]
            exact x2'
          obtain ⟨hxn, hkcn, hk6n⟩ := keep (l := nTh) nTh_ok hren.2 hx hkc hn26 hn47
          have ec : (Int32.ofInt xx).toInt = xx := rInt (by unfold rI0; omega) (by unfold rI1; omega)
          have ec2 : ((zOf hc).1 15 2).toInt = z47 := by rw [ecnt]; exact rInt (by unfold rI0; omega) (by unfold rI1; omega)
          have hksn : yqS hcn := yqF_lt hks (by omega) (by omega) hk6n
          have en : (Int32.ofInt zz).toInt = zz := rInt (by unfold rI0; omega) (by unfold rI1; omega)
          have el : len.toInt = z26 := by rw [elen]; exact rInt (by unfold rI0; omega) (by unfold rI1; omega)
          have hold : oldB nTh = true := by
            have := nTh_ok
            unfold nOk at this
            rw [Bool.and_eq_true] at this
            exact this.1
          have a := hk zs lcn hcn ⟨⟨hren.1, rHr_self hren.2⟩, old_c0 (h := (nTh, rMk 9 0)) hold hren.2 hz, ⟨tf, _, hxn, okT_le ht (by omega) (by omega)⟩, hkcn, hksn⟩ po
          exact ans_c0 a (fun i i1 i2 => (old3 (l := nTh) hold hren.2 i i1 i2).symm)
        · cases hc3
/-- from the loop's first turn on -/
theorem nAll' (h5 : nFv v5) (hcl : ∀ ce as h r, call ce as h = some r ↔ ∃ n, evM 158 nDflt (mP' (nCodw v5)) nHn nMxx' 15 n ce as h = some r) {ρ : List Int} {lc : mL} {hc : mH} (hO : rOk ρ nEs.1) (hl : rEv ρ nEs.2.2.1 = some lc) (hh : rHr hc ρ nEs.2.2.2.2 hc) (hz : zC0 (hc.take 158)) {f : Nat → Int32} {len : Int32} (hx : xTx hc f len) (ht : okT f len) (hkc : yqC hc) (hks : yqS hc) : nA v5 call lc hc := by
  have hin := nInV
  unfold nIn at hin
  split at hin
  · rename_i vs hvs
    simp only [Bool.and_eq_true] at hin
    obtain ⟨⟨⟨i1, i2⟩, i3⟩, i4⟩ := hin
    have i2' := i2
    unfold rFits at i2'
    simp only [Bool.and_eq_true] at i2'
    obtain ⟨ve, hve⟩ := rAts_ok hl hh hvs i2'.1.1.1.2
    have hn : nEs.1.length ≤ ρ.length := by rw [hO.1]; exact Nat.le_refl _
    have hre := rFits_ok hO hl hh hn hve i2
    have et : ρ.take nEs.1.length = ρ := by rw [← hO.1, List.take_length]
    rw [et] at hre
    exact rLoopX (Q := nQ) (A := nA v5 call) (s := nEs) (t := nT) (lp := nLp) hO hve (of_decide_eq_true i1) i3 i4 ⟨hre, hz, ⟨f, len, hx, ht⟩, hkc, hks⟩ (fun zs lc2 hc2 hok hre2 hk => nBody h5 hcl hok hre2 hk.2)
  · cases hin
end TN
