/-! THE LAW ANSWERS 1, OF EVERY SCRIPT -/
theorem eS_new {k0 : Nat} {dflt : Nat → List Value} {ix o1 o2 pc : Nat} {v : Value} {lv : mL} {st : List Value} {h : mH} : eS k0 dflt (.new ix, o1, o2, 0, v) pc lv st h = some (pc + 3, lv, .ref h.length :: st, h ++ [some (.inr (o1, dflt o1))]) := by
  simp [eS, mRt, mTh, mNw, mCl, mIv, mNx, mA, mB, mD, mJ, mG, mP, mN, mLen]
theorem eS_nal {k0 : Nat} {dflt : Nat → List Value} {o : Nat × Nat × Nat × Value} {pc : Nat} {lv : mL} {st : List Value} {h : mH} : eS k0 dflt (.newarray .long, o) pc lv (.int 1 :: st) h = some (pc + 2, lv, .ref h.length :: st, h ++ [some (.inl (1, 1, .inr (.inl (fun _ => 0))))]) := by
  have e : mNa 1 (.int 1 :: st) h (fun n => (n, .inr (.inl (fun _ => 0)))) = some (.ref h.length :: st, h ++ [some (.inl (1, 1, .inr (.inl (fun _ => 0))))]) := by
    show (if ¬ (1 : Int32) < 0 ∧ (1 : Int32).toNatClampNeg ≤ 1000 then _ else none) = _
    rw [if_pos (by decide)]
    rfl
  simp only [eS, mRt, mTh, mNw, mCl, mIv, mNx, mA, mB, mD, mJ, mG, mP, mN, mLen, e]
  rfl
theorem nDf_sz : ∀ c, (nDflt c).length ≤ 1000 := by
  intro c
  unfold nDflt
  split <;> decide
def nLv3 : mL := [(4, .int 0), (3, .ref 205), (2, .ref 183), (1, .ref 158), (0, .ref 0)]
section RA
variable {v5 : Value} {call : Nat → List Value → mH → Option (mO × mH)}
/-- from the law's first instruction to its loop -/
theorem nPre {h0 h1 h2 : mH} (l0 : h0.length = 158) (l1 : h1.length = 183) (l2 : h2.length = 205) (c1 : call 1 [.ref 158] (h0 ++ [some (.inr (0, nDflt 0))]) = some (.inl none, h1)) (c2 : call 2 [.ref 183] (h1 ++ [some (.inr (7, nDflt 7))]) = some (.inl none, h2)) : eW (fun n => evF 158 nDflt (mP' (nCodw v5)) nHn 16 call n 0) 0 [(0, .ref 0)] [] h0 23 nLv3 [] (h2 ++ [some (.inl (1, 1, .inr (.inl (fun _ => 0))))]) := by
  have hC : nCodw v5 0 = nC0 := rfl
  have s1 := eW.e (k0 := 158) (dflt := nDflt) (Hn := nHn) (dp := 16) (call := call) (mP'_ok hC 0 _ rfl) (eS_new (k0 := 158) (dflt := nDflt) (ix := 8) (o1 := 0) (o2 := 0) (pc := 0) (v := .null) (lv := [(0, .ref 0)]) (st := []) (h := h0))
  rw [l0] at s1
  have s2 := eW.r (k0 := 158) (dflt := nDflt) (Hn := nHn) (dp := 16) (call := call) (mP'_ok hC) 1 (show eR 158 nDflt nC0 1 3 [(0, .ref 0)] [.ref 158] (h0 ++ [some (.inr (0, nDflt 0))]) = some (4, [(0, .ref 0)], [.ref 158, .ref 158], h0 ++ [some (.inr (0, nDflt 0))]) from rfl)
  have s3 := eW_call (k0 := 158) (dflt := nDflt) (Hn := nHn) (dp := 16) (lv := [(0, .ref 0)]) (mP'_ok hC 4 _ rfl) rfl rfl (show mCl (.invokespecial 60, 1, 1, 0, .null) [.ref 158, .ref 158] (h0 ++ [some (.inr (0, nDflt 0))]) = some (1, [.ref 158], [.ref 158]) from if_pos ⟨rfl, rfl, (show 1 ≤ 2 by decide), (show 1 ≤ 8 by decide), rfl⟩) c1
  have s4 := eW.r (k0 := 158) (dflt := nDflt) (Hn := nHn) (dp := 16) (call := call) (mP'_ok hC) 1 (show eR 158 nDflt nC0 1 7 [(0, .ref 0)] [.ref 158] h1 = some (8, [(1, .ref 158), (0, .ref 0)], [], h1) from rfl)
  have s5 := eW.e (k0 := 158) (dflt := nDflt) (Hn := nHn) (dp := 16) (call := call) (mP'_ok hC 8 _ rfl) (eS_new (k0 := 158) (dflt := nDflt) (ix := 61) (o1 := 7) (o2 := 0) (pc := 8) (v := .null) (lv := [(1, .ref 158), (0, .ref 0)]) (st := []) (h := h1))
  rw [l1] at s5
  have s6 := eW.r (k0 := 158) (dflt := nDflt) (Hn := nHn) (dp := 16) (call := call) (mP'_ok hC) 1 (show eR 158 nDflt nC0 1 11 [(1, .ref 158), (0, .ref 0)] [.ref 183] (h1 ++ [some (.inr (7, nDflt 7))]) = some (12, [(1, .ref 158), (0, .ref 0)], [.ref 183, .ref 183], h1 ++ [some (.inr (7, nDflt 7))]) from rfl)
  have s7 := eW_call (k0 := 158) (dflt := nDflt) (Hn := nHn) (dp := 16) (lv := [(1, .ref 158), (0, .ref 0)]) (mP'_ok hC 12 _ rfl) rfl rfl (show mCl (.invokespecial 63, 2, 1, 0, .null) [.ref 183, .ref 183] (h1 ++ [some (.inr (7, nDflt 7))]) = some (2, [.ref 183], [.ref 183]) from if_pos ⟨rfl, rfl, (show 1 ≤ 2 by decide), (show 1 ≤ 8 by decide), rfl⟩) c2
  have s8 := eW.r (k0 := 158) (dflt := nDflt) (Hn := nHn) (dp := 16) (call := call) (mP'_ok hC) 2 (show eR 158 nDflt nC0 2 15 [(1, .ref 158), (0, .ref 0)] [.ref 183] h2 = some (17, [(2, .ref 183), (1, .ref 158), (0, .ref 0)], [.int 1], h2) from rfl)
  have s9 := eW.e (k0 := 158) (dflt := nDflt) (Hn := nHn) (dp := 16) (call := call) (mP'_ok hC 17 _ rfl) (eS_nal (k0 := 158) (dflt := nDflt) (o := (0, 0, 0, .null)) (pc := 17) (lv := [(2, .ref 183), (1, .ref 158), (0, .ref 0)]) (st := []) (h := h2))
  rw [l2] at s9
  have s10 := eW.r (k0 := 158) (dflt := nDflt) (Hn := nHn) (dp := 16) (call := call) (mP'_ok hC) 3 (show eR 158 nDflt nC0 3 19 [(2, .ref 183), (1, .ref 158), (0, .ref 0)] [.ref 205] (h2 ++ [some (.inl (1, 1, .inr (.inl (fun _ => 0))))]) = some (23, nLv3, [], h2 ++ [some (.inl (1, 1, .inr (.inl (fun _ => 0))))]) from rfl)
  exact ((((((((s1.trans s2).trans s3).trans s4).trans s5).trans s6).trans s7).trans s8).trans s9).trans s10
set_option maxRecDepth 20000 in
/-- fewer than five ints: no call -/
theorem nFew {hc : mH} {L : Nat} {f : Nat → Int32} (w1 : hc[0]? = some (some (.inl (4, L, .inl f)))) (hL : L < 5) : ∃ n, evF 158 nDflt (mP' (nCodw v5)) nHn 16 call n 0 23 nLv3 [] hc = some (.inl (some (.int 1)), hc) := by
  have hC : nCodw v5 0 = nC0 := rfl
  have s1 := eW.r (k0 := 158) (dflt := nDflt) (Hn := nHn) (dp := 16) (call := call) (mP'_ok hC) 2 (show eR 158 nDflt nC0 2 23 nLv3 [] hc = some (26, nLv3, [.ref 0, .int 0], hc) from rfl)
  have s2 := eW.e (k0 := 158) (dflt := nDflt) (Hn := nHn) (dp := 16) (call := call) (mP'_ok hC 26 _ rfl) (eS_len (k0 := 158) (dflt := nDflt) (o := (0, 0, 0, .null)) (pc := 26) (lv := nLv3) (r := [.int 0]) w1)
  have s3 := eW.r (k0 := 158) (dflt := nDflt) (Hn := nHn) (dp := 16) (call := call) (mP'_ok hC) 2 (show eR 158 nDflt nC0 2 27 nLv3 [.int (Int32.ofNat L), .int 0] hc = some (29, nLv3, [.int (Int32.ofNat L - Int32.ofInt 5), .int 0], hc) from rfl)
  have hgt : mCnd .gt 0 (Int32.ofNat L - Int32.ofInt 5) = true := by
    have key : ∀ L : Fin 5, mCnd .gt 0 (Int32.ofNat L.val - Int32.ofInt 5) = true := by decide
    exact key ⟨L, hL⟩
  have s4 := eW.icmp (k0 := 158) (dflt := nDflt) (P := mP' (nCodw v5)) (Hn := nHn) (dp := 16) (call := call) (lv := nLv3) (h := hc) (r := []) (mP'_ok hC 29 _ rfl) hgt (show mBr true 29 611 [] = some (640, []) from rfl)
  have s5 := eW.r (k0 := 158) (dflt := nDflt) (Hn := nHn) (dp := 16) (call := call) (mP'_ok hC) 1 (show eR 158 nDflt nC0 1 640 nLv3 [] hc = some (641, nLv3, [.int 1], hc) from rfl)
  have fin : ∃ n, evF 158 nDflt (mP' (nCodw v5)) nHn 16 call n 0 641 nLv3 [.int 1] hc = some (.inl (some (.int 1)), hc) := by
    refine ⟨1, ?_⟩
    conv => lhs; unfold evF
    rw [mP'_ok hC 641 _ rfl]
    rfl
  exact ((((s1.trans s2).trans s3).trans s4).trans s5) _ fin
theorem nT_9 : rRg nTf (rMk 9 0) = some (0, 2600) := by decide
theorem nEh_0 : rGt nEh 0 = some (some (.inr (1002, [rMk 0 0, .int 0, rMk 1 0, rMk 2 0, rMk 3 0, rMk 4 0, rMk 5 0, .double 6, rMk 7 0]))) := rfl
/-- the window at 0, before the first turn -/
theorem nWin0 {L : Nat} (hL : L ≤ 2560) (h5 : 5 ≤ L) (xs : Nat → Int32) : rCr ((L : Int) :: nWv xs 0) (some (.inr (1002, [rMk 0 0, .int 0, rMk 1 0, rMk 2 0, rMk 3 0, rMk 4 0, rMk 5 0, .double 6, rMk 7 0]))) (some (.inl (4, L, .inl xs))) := by
  have g8 := rGb_le (((xs 1).toInt64 <<< 32) ||| ((xs 2).toInt64 &&& 4294967295))
  have k0 : rE ((L : Int) :: nWv xs 0) (rMk 0 0) = some (.int (Int32.ofNat L)) := rE_at (by decide) (by rw [rOfN (by omega)]; rfl)
  have k1 : rE ((L : Int) :: nWv xs 0) (rMk 1 0) = some (.int (xs 0)) := rE_at (by decide) rfl
  have k2 : rE ((L : Int) :: nWv xs 0) (rMk 2 0) = some (.int (xs 1)) := rE_at (by decide) rfl
  have k3 : rE ((L : Int) :: nWv xs 0) (rMk 3 0) = some (.int (xs 2)) := rE_at (by decide) rfl
  have k4 : rE ((L : Int) :: nWv xs 0) (rMk 4 0) = some (.int (xs 3)) := rE_at (by decide) rfl
  have k5 : rE ((L : Int) :: nWv xs 0) (rMk 5 0) = some (.int (xs 4)) := rE_at (by decide) rfl
  have k7 : rE ((L : Int) :: nWv xs 0) (rMk 7 0) = some (.int (Int32.ofNat (rGb (((xs 1).toInt64 <<< 32) ||| ((xs 2).toInt64 &&& 4294967295))))) := rE_at (by decide) (by rw [rG8 g8]; rfl)
  have k6 : rE ((L : Int) :: nWv xs 0) (.double 6) = some (.long (((xs 1).toInt64 <<< 32) ||| ((xs 2).toInt64 &&& 4294967295))) := by
    have e : ((L : Int) :: nWv xs 0)[(6 : UInt64).toNat]? = some (((xs 1).toInt64 <<< 32) ||| ((xs 2).toInt64 &&& 4294967295)).toInt := rfl
    rw [rE_d, e]
    show some (Value.long (Int64.ofInt _)) = _
    rw [Int64.ofInt_toInt]
  have z : (0 : Int32).toInt = 0 := rfl
  exact ⟨_, rEs_mk k0 (rEs_mk rfl (rEs_mk k1 (rEs_mk k2 (rEs_mk k3 (rEs_mk k4 (rEs_mk k5 (rEs_mk k6 (rEs_mk k7 rfl)))))))), L, xs, 0, _, _, _, _, _, rfl, by omega, by rw [z]; decide, by rw [z]; omega, rfl, rfl, rfl, rfl, rfl, rfl⟩
end RA
set_option maxHeartbeats 1000000 in
theorem nRunAll {v5 : Value} (h5 : nFv v5) {L : Nat} (hL : L ≤ 2560) (xs : Nat → Int32) : ∃ n hF, evM 158 nDflt (mP' (nCodw v5)) nHn nMxx' 16 n 0 [.ref 0] (nOld L xs) = some (.inl (some (.int 1)), hF) ∧ hF.length ≤ 3000 ∧ mSls hF ≤ mSls (nOld L xs) + 3000000 := by
  obtain ⟨call, hcl⟩ := rLim (k0 := 158) (dflt := nDflt) (P := mP' (nCodw v5)) (Hn := nHn) (mx := nMxx') 15
  obtain ⟨h1, h2, a1, l1, b1, l2, w1, hmle, htk, hcells⟩ := nCtor v5 L xs
  have pre := nPre (v5 := v5) (call := call) (nOld_len L xs) l1 l2 ((hcl _ _ _ _).mpr ⟨400, a1⟩) ((hcl _ _ _ _).mpr ⟨400, b1⟩)
  have w1' : (h2 ++ [some (.inl (1, 1, .inr (.inl (fun _ => 0))))] : mH)[0]? = some (some (.inl (4, L, .inl xs))) := by rw [List.getElem?_append_left (by omega)]; exact w1
  have l3 : (h2 ++ [some (.inl (1, 1, .inr (.inl (fun _ => 0))))] : mH).length = 206 := by rw [List.length_append, l2]; rfl
  have main : ∃ n hF, evF 158 nDflt (mP' (nCodw v5)) nHn 16 call n 0 23 nLv3 [] (h2 ++ [some (.inl (1, 1, .inr (.inl (fun _ => 0))))]) = some (.inl (some (.int 1)), hF) ∧ hF.length ≤ 2806 := by
    by_cases h5L : L < 5
    · obtain ⟨n, hn⟩ := nFew (v5 := v5) (call := call) w1' h5L
      exact ⟨n, _, hn, by rw [l3]; decide⟩
    · have hO : rOk ((L : Int) :: nWv xs 0) nEs.1 := rOk_w (ρ := [(L : Int)]) (fs := [(5, 2560)]) (rOk_nil.push (z := (L : Int)) (by omega) (by omega) (by decide) (by decide)) xs 0
      have hh : rHr (h2 ++ [some (.inl (1, 1, .inr (.inl (fun _ => 0))))]) ((L : Int) :: nWv xs 0) nEs.2.2.2.2 (h2 ++ [some (.inl (1, 1, .inr (.inl (fun _ => 0))))]) := by
        refine ⟨⟨0, rfl, by decide, by rw [l3]; rfl⟩, fun i a ha => ?_, fun _ _ _ => rfl, nEh_len⟩
        have ha : rGt nEh i = some a := ha
        by_cases hi : i = 0
        · subst hi
          rw [nEh_0] at ha
          cases ha
          exact ⟨_, w1', nWin0 hL (by omega) xs⟩
        · obtain ⟨c, c1, c2⟩ := hcells i a (by omega) ha
          refine ⟨c, c1, ?_⟩
          rcases c2 with rfl | c2
          · trivial
          · exact c2 _
      have hl : rEv ((L : Int) :: nWv xs 0) nEs.2.2.1 = some [(0, .ref 0), (1, .ref 158), (2, .ref 183), (3, .ref 205), (4, .int 0)] := rfl
      have hz1 : zrH h1 := evM_z a1 (zr_app (nOld_z L xs) (fun k' n' f' e => by cases e))
      have hz2 : zrH h2 := evM_z b1 (zr_app hz1 (fun k' n' f' e => by cases e))
      have hz3 : zrH (h2 ++ [some (.inl (1, 1, .inr (.inl (fun _ => 0))))]) := zr_app hz2 (fun k' n' f' e => by cases e)
      have htk' : (h2 ++ [some (.inl (1, 1, .inr (.inl (fun _ => 0))))] : mH).take 158 = nOld L xs := by
        rw [List.take_append_of_le_length (by omega)]
        exact htk
      obtain ⟨r, r1, ex, r2, oc, hF, r3, r4, n, r5⟩ := nAll' h5 hcl hO hl hh (by rw [htk']; exact nOld_c0 L xs) (by rw [htk']; exact nOld_bS L xs) (first_ok hmle hz3) (first_R hmle hz3).1 rfl (first_R hmle hz3).2
      have hr := List.mem_singleton.mp r1
      subst hr
      obtain ⟨c, c1, rfl⟩ := r3
      cases c1
      obtain ⟨⟨x, x1, x2, x3⟩, -⟩ := r4
      obtain ⟨y, hy, y1, y2⟩ := rRg_ok r2 nT_9 x1
      cases hy
      have hs : rSubl [(0, .ref 0), (1, .ref 158), (2, .ref 183), (3, .ref 205), (4, .int 0)] nLv3 := by
        intro q hq
        simp only [List.mem_cons, List.not_mem_nil, or_false] at hq
        rcases hq with rfl | rfl | rfl | rfl | rfl <;> rfl
      refine ⟨n, hF, evF_lv n hs r5, ?_⟩
      dsimp only at y2
      omega
  obtain ⟨n, hF, hn, hlen⟩ := main
  obtain ⟨m, hm⟩ := pre _ ⟨n, hn⟩
  obtain ⟨k, hk⟩ := rLimM hcl (mi := 0) (as := [.ref 0]) (h := nOld L xs) (show (lg_sl [Value.ref 0]).length ≤ nMxx' 0 by decide) hm
  refine ⟨k, hF, hk, by omega, ?_⟩
  obtain ⟨e1, e2⟩ := evM_size nDf_sz hk
  rw [nOld_len] at e1 e2
  omega
