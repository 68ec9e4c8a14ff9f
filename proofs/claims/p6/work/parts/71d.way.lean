/-! THE LAW'S THREE CASES, step by step -/
abbrev nL (x : Int32) : mL := [(4, .int x), (0, .ref 0), (1, .ref 158), (2, .ref 183), (3, .ref 205)]
abbrev WW (v5 : Value) (call : Nat → List Value → mH → Option (mO × mH)) : Nat → Nat → mL → List Value → mH → Option (mO × mH) := fun n => evF 158 nDflt (mP' (nCodw v5)) nHn 16 call n 0
section WY
variable {v5 : Value} {call : Nat → List Value → mH → Option (mO × mH)} {h h1 h2 : mH} {x v1 v2 : Int32}
theorem nC0_is : nCodw v5 0 = nC0 := rfl
theorem wr (j : Nat) {pc : Nat} {lv : mL} {st : List Value} {q : Nat × mL × List Value × mH} (hr : eR 158 nDflt nC0 j pc lv st h = some q) : eW (WW v5 call) pc lv st h q.1 q.2.1 q.2.2.1 q.2.2.2 := eW.r (k0 := 158) (dflt := nDflt) (Hn := nHn) (dp := 16) (call := call) (mP'_ok nC0_is) j hr
theorem wl {pc : Nat} {a b : mL} {st : List Value} (hs : rSubl a b) : eW (WW v5 call) pc b st h pc a st h := eW.lv hs
theorem rc0 (hs : shP h) : (match (h[(158 : Nat)]? : Option mC) with
  | some (some (.inr (ci, _))) => (ci == 0)
  | _ => false) = true := by
  have e : h[(158 : Nat)]? = some (zCell (zOf h) 0) := hs.2 0 (by decide)
  rw [e]
  rfl
theorem rc7' {gs : List Value} (e : h[(183 : Nat)]? = some (some (.inr (7, gs)))) : (match (h[(183 : Nat)]? : Option mC) with
  | some (some (.inr (ci, _))) => (ci == 7)
  | _ => false) = true := by
  rw [e]
  rfl
theorem rc7 (hs : shP h) : (match (h[(183 : Nat)]? : Option mC) with
  | some (some (.inr (ci, _))) => (ci == 7)
  | _ => false) = true := rc7' (hs.2 25 (by decide))
theorem sub_nL {x : Int32} {b : mL} (h4 : mLd b 4 = some (.int x)) (h0 : mLd b 0 = some (.ref 0)) (h1 : mLd b 1 = some (.ref 158)) (h2 : mLd b 2 = some (.ref 183)) (h3 : mLd b 3 = some (.ref 205)) : rSubl (nL x) b := by
  intro q hq
  simp only [List.mem_cons, List.not_mem_nil, or_false] at hq
  rcases hq with rfl | rfl | rfl | rfl | rfl
  · exact h4
  · exact h0
  · exact h1
  · exact h2
  · exact h3
set_option maxRecDepth 20000 in
theorem w180 (hs : shP h) (hs1 : shP h1) (k1 : call 5 [.ref 158] h = some (.inl (some (.int v1)), h1)) (k2 : call 6 [.ref 183] h1 = some (.inl (some (.int v2)), h2)) : eW (WW v5 call) 180 (nL x) [] h 23 (nL (x + Int32.ofInt 5)) [] h2 := by
  have s1 := wr (v5 := v5) (call := call) 1 (show eR 158 nDflt nC0 1 180 (nL x) [] h = some (181, nL x, [.ref 158], h) from rfl)
  have s2 := eW_call (k0 := 158) (dflt := nDflt) (Hn := nHn) (dp := 16) (lv := nL x) (mP'_ok (nC0_is (v5 := v5)) 181 _ rfl) rfl rfl (show mCl (.invokevirtual 72, 5, 1, 0, .retAddr 0) [.ref 158] h = some (5, [.ref 158], []) from if_pos ⟨rfl, rfl, (show 1 ≤ 1 by decide), (show 0 ≤ 8 by decide), rc0 hs⟩) k1
  have s3 := wr (v5 := v5) (call := call) 2 (show eR 158 nDflt nC0 2 184 (nL x) [.int v1] h1 = some (186, nL x, [.ref 183], h1) from rfl)
  have s4 := eW_call (k0 := 158) (dflt := nDflt) (Hn := nHn) (dp := 16) (lv := nL x) (mP'_ok (nC0_is (v5 := v5)) 186 _ rfl) rfl rfl (show mCl (.invokevirtual 75, 6, 1, 0, .retAddr 7) [.ref 183] h1 = some (6, [.ref 183], []) from if_pos ⟨rfl, rfl, (show 1 ≤ 1 by decide), (show 0 ≤ 8 by decide), rc7 hs1⟩) k2
  have s5 := wr (v5 := v5) (call := call) 4 (show eR 158 nDflt nC0 4 189 (nL x) [.int v2] h2 = some (23, nL (x + Int32.ofInt 5), [], h2) from rfl)
  exact (((s1.trans s2).trans s3).trans s4).trans s5
set_option maxRecDepth 20000 in
theorem w193 (hs1 : shP h1) (k1 : call 7 [.ref 158, .ref 205] h = some (.inl (some (.int v1)), h1)) (k2 : call 8 [.ref 183] h1 = some (.inl (some (.int v2)), h2)) : eW (WW v5 call) 193 (nL x) [] h 23 (nL (x + Int32.ofInt 5)) [] h2 := by
  have s1 := wr (v5 := v5) (call := call) 2 (show eR 158 nDflt nC0 2 193 (nL x) [] h = some (195, nL x, [.ref 205, .ref 158], h) from rfl)
  have s2 := eW_call (k0 := 158) (dflt := nDflt) (Hn := nHn) (dp := 16) (lv := nL x) (mP'_ok (nC0_is (v5 := v5)) 195 _ rfl) rfl rfl (show mCl (.invokestatic 76, 7, 2, 0, .null) [.ref 205, .ref 158] h = some (7, [.ref 158, .ref 205], []) from if_pos ⟨rfl, rfl, (show 2 ≤ 2 by decide), (show 0 ≤ 8 by decide), rfl⟩) k1
  have s3 := wr (v5 := v5) (call := call) 2 (show eR 158 nDflt nC0 2 198 (nL x) [.int v1] h1 = some (201, (5, .int v1) :: nL x, [.ref 183], h1) from rfl)
  have s4 := eW_call (k0 := 158) (dflt := nDflt) (Hn := nHn) (dp := 16) (lv := (5, .int v1) :: nL x) (mP'_ok (nC0_is (v5 := v5)) 201 _ rfl) rfl rfl (show mCl (.invokevirtual 79, 8, 1, 0, .retAddr 7) [.ref 183] h1 = some (8, [.ref 183], []) from if_pos ⟨rfl, rfl, (show 1 ≤ 1 by decide), (show 0 ≤ 8 by decide), rc7 hs1⟩) k2
  have s5 := wr (v5 := v5) (call := call) 4 (show eR 158 nDflt nC0 4 204 ((5, .int v1) :: nL x) [.int v2] h2 = some (23, (4, .int (x + Int32.ofInt 5)) :: (6, .int v2) :: (5, .int v1) :: [(0, .ref 0), (1, .ref 158), (2, .ref 183), (3, .ref 205)], [], h2) from rfl)
  have s6 := wl (v5 := v5) (call := call) (pc := 23) (st := []) (h := h2) (a := nL (x + Int32.ofInt 5)) (b := (4, .int (x + Int32.ofInt 5)) :: (6, .int v2) :: (5, .int v1) :: [(0, .ref 0), (1, .ref 158), (2, .ref 183), (3, .ref 205)]) (sub_nL rfl rfl rfl rfl rfl)
  exact ((((s1.trans s2).trans s3).trans s4).trans s5).trans s6
/-- what field 0 of the reference is -/
theorem get235 (hcl : ∀ ce as h r, call ce as h = some r ↔ ∃ n, zEv v5 15 n ce as h = some r) {gs : List Value} {b : Int32} (e : h[(183 : Nat)]? = some (some (.inr (7, gs)))) (e0 : gs[(0 : Nat)]? = some (.int b)) : call 235 [.ref 183] h = some (.inl (some (.int b)), h) := by
  refine (hcl _ _ _ _).mpr ⟨3, ?_⟩
  have hC : nCodw v5 235 = nC235 := rfl
  have a1 := evF_r (k0 := 158) (dflt := nDflt) (P := mP' (nCodw v5)) (Hn := nHn) (dp := 15) (call := evM 158 nDflt (mP' (nCodw v5)) nHn nMxx' 14 3) (mP'_ok hC) 1 2 (show eR 158 nDflt nC235 1 0 [(0, .ref 183)] [] h = some (1, [(0, .ref 183)], [.ref 183], h) from rfl)
  have e1 : mG (.getfield 82) 7 0 .null [.ref 183] h = some [.int b] := by
    unfold mG
    dsimp only
    rw [e]
    dsimp only
    rw [e0]
    rfl
  have a2 := evF_e (k0 := 158) (dflt := nDflt) (P := mP' (nCodw v5)) (Hn := nHn) (dp := 15) (call := evM 158 nDflt (mP' (nCodw v5)) nHn nMxx' 14 3) (n := 1) (mi := 235) (mP'_ok hC 1 _ rfl) (show eS 158 nDflt (.getfield 82, 7, 0, 0, .null) 1 [(0, .ref 183)] [.ref 183] h = some (4, [(0, .ref 183)], [.int b], h) by simp [eS, mRt, mTh, mNw, mCl, mIv, mNx, mA, mB, mD, mJ, e1, mLen])
  have a3 : evF 158 nDflt (mP' (nCodw v5)) nHn 15 (evM 158 nDflt (mP' (nCodw v5)) nHn nMxx' 14 3) 1 235 4 [(0, .ref 183)] [.int b] h = some (.inl (some (.int b)), h) := by
    unfold evF
    rw [mP'_ok hC 4 _ rfl]
    rfl
  have a := (a1.trans a2).trans a3
  show evM 158 nDflt (mP' (nCodw v5)) nHn nMxx' 15 3 235 [.ref 183] h = _
  unfold evM
  exact a
section E2
variable {dp : Nat}
set_option maxRecDepth 4000 in
theorem cEight2 {c1 c2 c3 : Value} {x : Int32} {E : mL} {stc : List Value} {h : mH} {L : Nat} {f : Nat → Int32} (hc : h[0]? = some (some (.inl (4, L, .inl f)))) (hL : L ≤ 10000) (h0 : 0 ≤ x.toInt) (h5 : x.toInt + 5 ≤ L) {pc : Nat} (hpc : pc = 223 ∨ pc = 252) : eW (fun n => evF 158 nDflt (mP' (nCodw v5)) nHn dp call n 0) pc (cL6 c1 c2 c3 x E) stc h (pc + 22) (cL6 c1 c2 c3 x E) (.long (((f (x.toInt.toNat + 1)).toInt64 <<< 32) ||| ((f (x.toInt.toNat + 2)).toInt64 &&& 4294967295)) :: stc) h := by
  have hC : nCodw v5 0 = nC0 := rfl
  obtain ⟨i1, n1⟩ := cIn (j := 1) h0 h5 hL (by omega)
  obtain ⟨i2, n2⟩ := cIn (j := 2) h0 h5 hL (by omega)
  have n32 : ((Int8.ofInt 32).toInt32.toInt64 &&& 63) = 32 := by decide
  rw [← n1, ← n2, ← n32]
  rcases hpc with rfl | rfl
  · have s1 := eW.r (k0 := 158) (dflt := nDflt) (Hn := nHn) (dp := dp) (call := call) (mP'_ok hC) 4 (show eR 158 nDflt nC0 4 223 (cL6 c1 c2 c3 x E) stc h = some (228, cL6 c1 c2 c3 x E, .int (x + Int32.ofInt 1) :: .ref 0 :: stc, h) from rfl)
    have s2 := eW.e (k0 := 158) (dflt := nDflt) (Hn := nHn) (dp := dp) (call := call) (mP'_ok hC 228 _ rfl) (eS_ial (k0 := 158) (dflt := nDflt) (o := (0, 0, 0, .null)) (pc := 228) (lv := cL6 c1 c2 c3 x E) (r := stc) hc i1)
    have s3 := eW.r (k0 := 158) (dflt := nDflt) (Hn := nHn) (dp := dp) (call := call) (mP'_ok hC) 7 (show eR 158 nDflt nC0 7 229 (cL6 c1 c2 c3 x E) (.int (f (x + Int32.ofInt 1).toNatClampNeg) :: stc) h = some (238, cL6 c1 c2 c3 x E, .int (x + Int32.ofInt 2) :: .ref 0 :: .long ((f (x + Int32.ofInt 1).toNatClampNeg).toInt64 <<< ((Int8.ofInt 32).toInt32.toInt64 &&& 63)) :: stc, h) from rfl)
    have s4 := eW.e (k0 := 158) (dflt := nDflt) (Hn := nHn) (dp := dp) (call := call) (mP'_ok hC 238 _ rfl) (eS_ial (k0 := 158) (dflt := nDflt) (o := (0, 0, 0, .null)) (pc := 238) (lv := cL6 c1 c2 c3 x E) (r := .long ((f (x + Int32.ofInt 1).toNatClampNeg).toInt64 <<< ((Int8.ofInt 32).toInt32.toInt64 &&& 63)) :: stc) hc i2)
    have s5 := eW.r (k0 := 158) (dflt := nDflt) (Hn := nHn) (dp := dp) (call := call) (mP'_ok hC) 4 (show eR 158 nDflt nC0 4 239 (cL6 c1 c2 c3 x E) (.int (f (x + Int32.ofInt 2).toNatClampNeg) :: .long ((f (x + Int32.ofInt 1).toNatClampNeg).toInt64 <<< ((Int8.ofInt 32).toInt32.toInt64 &&& 63)) :: stc) h = some (245, cL6 c1 c2 c3 x E, .long (((f (x + Int32.ofInt 1).toNatClampNeg).toInt64 <<< ((Int8.ofInt 32).toInt32.toInt64 &&& 63)) ||| ((f (x + Int32.ofInt 2).toNatClampNeg).toInt64 &&& 4294967295)) :: stc, h) from rfl)
    exact (((s1.trans s2).trans s3).trans s4).trans s5
  · have s1 := eW.r (k0 := 158) (dflt := nDflt) (Hn := nHn) (dp := dp) (call := call) (mP'_ok hC) 4 (show eR 158 nDflt nC0 4 252 (cL6 c1 c2 c3 x E) stc h = some (257, cL6 c1 c2 c3 x E, .int (x + Int32.ofInt 1) :: .ref 0 :: stc, h) from rfl)
    have s2 := eW.e (k0 := 158) (dflt := nDflt) (Hn := nHn) (dp := dp) (call := call) (mP'_ok hC 257 _ rfl) (eS_ial (k0 := 158) (dflt := nDflt) (o := (0, 0, 0, .null)) (pc := 257) (lv := cL6 c1 c2 c3 x E) (r := stc) hc i1)
    have s3 := eW.r (k0 := 158) (dflt := nDflt) (Hn := nHn) (dp := dp) (call := call) (mP'_ok hC) 7 (show eR 158 nDflt nC0 7 258 (cL6 c1 c2 c3 x E) (.int (f (x + Int32.ofInt 1).toNatClampNeg) :: stc) h = some (267, cL6 c1 c2 c3 x E, .int (x + Int32.ofInt 2) :: .ref 0 :: .long ((f (x + Int32.ofInt 1).toNatClampNeg).toInt64 <<< ((Int8.ofInt 32).toInt32.toInt64 &&& 63)) :: stc, h) from rfl)
    have s4 := eW.e (k0 := 158) (dflt := nDflt) (Hn := nHn) (dp := dp) (call := call) (mP'_ok hC 267 _ rfl) (eS_ial (k0 := 158) (dflt := nDflt) (o := (0, 0, 0, .null)) (pc := 267) (lv := cL6 c1 c2 c3 x E) (r := .long ((f (x + Int32.ofInt 1).toNatClampNeg).toInt64 <<< ((Int8.ofInt 32).toInt32.toInt64 &&& 63)) :: stc) hc i2)
    have s5 := eW.r (k0 := 158) (dflt := nDflt) (Hn := nHn) (dp := dp) (call := call) (mP'_ok hC) 4 (show eR 158 nDflt nC0 4 268 (cL6 c1 c2 c3 x E) (.int (f (x + Int32.ofInt 2).toNatClampNeg) :: .long ((f (x + Int32.ofInt 1).toNatClampNeg).toInt64 <<< ((Int8.ofInt 32).toInt32.toInt64 &&& 63)) :: stc) h = some (274, cL6 c1 c2 c3 x E, .long (((f (x + Int32.ofInt 1).toNatClampNeg).toInt64 <<< ((Int8.ofInt 32).toInt32.toInt64 &&& 63)) ||| ((f (x + Int32.ofInt 2).toNatClampNeg).toInt64 &&& 4294967295)) :: stc, h) from rfl)
    exact (((s1.trans s2).trans s3).trans s4).trans s5
end E2
set_option maxRecDepth 20000 in
theorem w108 {L : Nat} {f : Nat → Int32} (hs1 : shP h1) (c : h[0]? = some (some (.inl (4, L, .inl f)))) (c1 : h1[0]? = some (some (.inl (4, L, .inl f)))) (hL : L ≤ 10000) (x0 : 0 ≤ x.toInt) (x5 : x.toInt + 5 ≤ L) (k1 : call 3 [.ref 158, .long (((f (x.toInt.toNat + 1)).toInt64 <<< 32) ||| ((f (x.toInt.toNat + 2)).toInt64 &&& 4294967295)), .int (f (x.toInt.toNat + 3)), .ref 205] h = some (.inl (some (.int v1)), h1)) (k2 : call 4 [.ref 183, .long (((f (x.toInt.toNat + 1)).toInt64 <<< 32) ||| ((f (x.toInt.toNat + 2)).toInt64 &&& 4294967295)), .int (f (x.toInt.toNat + 3))] h1 = some (.inl (some (.int v2)), h2)) : eW (WW v5 call) 108 (nL x) [] h 23 (nL (x + Int32.ofInt 5)) [] h2 := by
  obtain ⟨i3, n3⟩ := cIn (j := 3) x0 x5 hL (by omega)
  have s0 : eW (WW v5 call) 108 (nL x) [] h 108 (cL6 (.ref 158) (.ref 183) (.ref 205) x []) [] h := wl (by
    intro q hq
    simp only [cL6, List.mem_cons, List.not_mem_nil, or_false] at hq
    rcases hq with rfl | rfl | rfl | rfl | rfl <;> rfl)
  have s1 := wr (v5 := v5) (call := call) 1 (show eR 158 nDflt nC0 1 108 (cL6 (.ref 158) (.ref 183) (.ref 205) x []) [] h = some (109, cL6 (.ref 158) (.ref 183) (.ref 205) x [], [.ref 158], h) from rfl)
  have s2 := cEight (v5 := v5) (dp := 16) (call := call) (c1 := .ref 158) (c2 := .ref 183) (c3 := .ref 205) (E := []) (stc := [.ref 158]) c hL x0 x5 (pc := 109) (.inl rfl)
  have s9 := cEight (v5 := v5) (dp := 16) (call := call) (c1 := .ref 158) (c2 := .ref 183) (c3 := .ref 205) (E := []) (stc := [.ref 183]) c1 hL x0 x5 (pc := 144) (.inr rfl)
  rw [← n3] at k1 k2
  generalize (((f (x.toInt.toNat + 1)).toInt64 <<< 32) ||| ((f (x.toInt.toNat + 2)).toInt64 &&& 4294967295)) = E at k1 k2 s2 s9
  have s3 := wr (v5 := v5) (call := call) 4 (show eR 158 nDflt nC0 4 131 (cL6 (.ref 158) (.ref 183) (.ref 205) x []) [.long E, .ref 158] h = some (136, cL6 (.ref 158) (.ref 183) (.ref 205) x [], [.int (x + Int32.ofInt 3), .ref 0, .long E, .ref 158], h) from rfl)
  have s4 := eW.e (k0 := 158) (dflt := nDflt) (Hn := nHn) (dp := 16) (call := call) (mP'_ok (nC0_is (v5 := v5)) 136 _ rfl) (eS_ial (k0 := 158) (dflt := nDflt) (o := (0, 0, 0, .null)) (pc := 136) (lv := cL6 (.ref 158) (.ref 183) (.ref 205) x []) (r := [.long E, .ref 158]) c i3)
  have s5 := wr (v5 := v5) (call := call) 1 (show eR 158 nDflt nC0 1 137 (cL6 (.ref 158) (.ref 183) (.ref 205) x []) [.int (f (x + Int32.ofInt 3).toNatClampNeg), .long E, .ref 158] h = some (138, cL6 (.ref 158) (.ref 183) (.ref 205) x [], [.ref 205, .int (f (x + Int32.ofInt 3).toNatClampNeg), .long E, .ref 158], h) from rfl)
  have s6 := eW_call (k0 := 158) (dflt := nDflt) (Hn := nHn) (dp := 16) (lv := cL6 (.ref 158) (.ref 183) (.ref 205) x []) (mP'_ok (nC0_is (v5 := v5)) 138 _ rfl) rfl rfl (show mCl (.invokestatic 66, 3, 4, 0, .null) [.ref 205, .int (f (x + Int32.ofInt 3).toNatClampNeg), .long E, .ref 158] h = some (3, [.ref 158, .long E, .int (f (x + Int32.ofInt 3).toNatClampNeg), .ref 205], []) from if_pos ⟨rfl, rfl, (show 4 ≤ 4 by decide), (show 0 ≤ 8 by decide), rfl⟩) k1
  have s7 := wr (v5 := v5) (call := call) 2 (show eR 158 nDflt nC0 2 141 (cL6 (.ref 158) (.ref 183) (.ref 205) x []) [.int v1] h1 = some (144, (5, .int v1) :: cL6 (.ref 158) (.ref 183) (.ref 205) x [], [.ref 183], h1) from rfl)
  have s8 : eW (WW v5 call) 144 ((5, .int v1) :: cL6 (.ref 158) (.ref 183) (.ref 205) x []) [.ref 183] h1 144 (cL6 (.ref 158) (.ref 183) (.ref 205) x []) [.ref 183] h1 := wl (by
    intro q hq
    simp only [cL6, List.mem_cons, List.not_mem_nil, or_false] at hq
    rcases hq with rfl | rfl | rfl | rfl | rfl <;> rfl)
  have s10 := wr (v5 := v5) (call := call) 4 (show eR 158 nDflt nC0 4 166 (cL6 (.ref 158) (.ref 183) (.ref 205) x []) [.long E, .ref 183] h1 = some (171, cL6 (.ref 158) (.ref 183) (.ref 205) x [], [.int (x + Int32.ofInt 3), .ref 0, .long E, .ref 183], h1) from rfl)
  have s11 := eW.e (k0 := 158) (dflt := nDflt) (Hn := nHn) (dp := 16) (call := call) (mP'_ok (nC0_is (v5 := v5)) 171 _ rfl) (eS_ial (k0 := 158) (dflt := nDflt) (o := (0, 0, 0, .null)) (pc := 171) (lv := cL6 (.ref 158) (.ref 183) (.ref 205) x []) (r := [.long E, .ref 183]) c1 i3)
  have s12 := eW_call (k0 := 158) (dflt := nDflt) (Hn := nHn) (dp := 16) (lv := cL6 (.ref 158) (.ref 183) (.ref 205) x []) (mP'_ok (nC0_is (v5 := v5)) 172 _ rfl) rfl rfl (show mCl (.invokevirtual 71, 4, 3, 0, .retAddr 7) [.int (f (x + Int32.ofInt 3).toNatClampNeg), .long E, .ref 183] h1 = some (4, [.ref 183, .long E, .int (f (x + Int32.ofInt 3).toNatClampNeg)], []) from if_pos ⟨rfl, rfl, (show 3 ≤ 3 by decide), (show 0 ≤ 8 by decide), rc7 hs1⟩) k2
  have s13 := wr (v5 := v5) (call := call) 4 (show eR 158 nDflt nC0 4 175 (cL6 (.ref 158) (.ref 183) (.ref 205) x []) [.int v2] h2 = some (23, (4, .int (x + Int32.ofInt 5)) :: (6, .int v2) :: [(0, .ref 0), (1, .ref 158), (2, .ref 183), (3, .ref 205)], [], h2) from rfl)
  have s14 := wl (v5 := v5) (call := call) (pc := 23) (st := []) (h := h2) (a := nL (x + Int32.ofInt 5)) (b := (4, .int (x + Int32.ofInt 5)) :: (6, .int v2) :: [(0, .ref 0), (1, .ref 158), (2, .ref 183), (3, .ref 205)]) (sub_nL rfl rfl rfl rfl rfl)
  exact ((((((((((((((s0.trans s1).trans s2).trans s3).trans s4).trans s5).trans s6).trans s7).trans s8).trans s9).trans s10).trans s11).trans s12).trans s13).trans s14)
set_option maxRecDepth 20000 in
theorem w222 {L : Nat} {f : Nat → Int32} {b : Int32} {gs : List Value} (hs1 : shP h1) (c : h[0]? = some (some (.inl (4, L, .inl f)))) (c1 : h1[0]? = some (some (.inl (4, L, .inl f)))) (hL : L ≤ 10000) (x0 : 0 ≤ x.toInt) (x5 : x.toInt + 5 ≤ L) (k1 : call 11 [.ref 158, .long (((f (x.toInt.toNat + 1)).toInt64 <<< 32) ||| ((f (x.toInt.toNat + 2)).toInt64 &&& 4294967295)), .ref 205] h = some (.inl (some (.int v1)), h1)) (k2 : call 12 [.ref 183, .long (((f (x.toInt.toNat + 1)).toInt64 <<< 32) ||| ((f (x.toInt.toNat + 2)).toInt64 &&& 4294967295))] h1 = some (.inl (some (.int v2)), h2)) (g2 : h2[(183 : Nat)]? = some (some (.inr (7, gs)))) (k3 : call 235 [.ref 183] h2 = some (.inl (some (.int b)), h2)) (hb : b = v1) : eW (WW v5 call) 222 (nL x) [] h 290 ((6, .int v2) :: cL6 (.ref 158) (.ref 183) (.ref 205) x [(5, .int v1)]) [] h2 := by
  have s0 : eW (WW v5 call) 222 (nL x) [] h 222 (cL6 (.ref 158) (.ref 183) (.ref 205) x []) [] h := wl (by
    intro q hq
    simp only [cL6, List.mem_cons, List.not_mem_nil, or_false] at hq
    rcases hq with rfl | rfl | rfl | rfl | rfl <;> rfl)
  have s1 := wr (v5 := v5) (call := call) 1 (show eR 158 nDflt nC0 1 222 (cL6 (.ref 158) (.ref 183) (.ref 205) x []) [] h = some (223, cL6 (.ref 158) (.ref 183) (.ref 205) x [], [.ref 158], h) from rfl)
  have s2 := cEight2 (v5 := v5) (dp := 16) (call := call) (c1 := .ref 158) (c2 := .ref 183) (c3 := .ref 205) (E := []) (stc := [.ref 158]) c hL x0 x5 (pc := 223) (.inl rfl)
  have s9 := cEight2 (v5 := v5) (dp := 16) (call := call) (c1 := .ref 158) (c2 := .ref 183) (c3 := .ref 205) (E := [(5, .int v1)]) (stc := [.ref 183]) c1 hL x0 x5 (pc := 252) (.inr rfl)
  generalize (((f (x.toInt.toNat + 1)).toInt64 <<< 32) ||| ((f (x.toInt.toNat + 2)).toInt64 &&& 4294967295)) = E at k1 k2 s2 s9
  have s5 := wr (v5 := v5) (call := call) 1 (show eR 158 nDflt nC0 1 245 (cL6 (.ref 158) (.ref 183) (.ref 205) x []) [.long E, .ref 158] h = some (246, cL6 (.ref 158) (.ref 183) (.ref 205) x [], [.ref 205, .long E, .ref 158], h) from rfl)
  have s6 := eW_call (k0 := 158) (dflt := nDflt) (Hn := nHn) (dp := 16) (lv := cL6 (.ref 158) (.ref 183) (.ref 205) x []) (mP'_ok (nC0_is (v5 := v5)) 246 _ rfl) rfl rfl (show mCl (.invokestatic 84, 11, 3, 0, .null) [.ref 205, .long E, .ref 158] h = some (11, [.ref 158, .long E, .ref 205], []) from if_pos ⟨rfl, rfl, (show 3 ≤ 3 by decide), (show 0 ≤ 8 by decide), rfl⟩) k1
  have s7 := wr (v5 := v5) (call := call) 2 (show eR 158 nDflt nC0 2 249 (cL6 (.ref 158) (.ref 183) (.ref 205) x []) [.int v1] h1 = some (252, (5, .int v1) :: cL6 (.ref 158) (.ref 183) (.ref 205) x [], [.ref 183], h1) from rfl)
  have s8 : eW (WW v5 call) 252 ((5, .int v1) :: cL6 (.ref 158) (.ref 183) (.ref 205) x []) [.ref 183] h1 252 (cL6 (.ref 158) (.ref 183) (.ref 205) x [(5, .int v1)]) [.ref 183] h1 := wl (by
    intro q hq
    simp only [cL6, List.mem_cons, List.not_mem_nil, or_false] at hq
    rcases hq with rfl | rfl | rfl | rfl | rfl | rfl <;> rfl)
  have s12 := eW_call (k0 := 158) (dflt := nDflt) (Hn := nHn) (dp := 16) (lv := cL6 (.ref 158) (.ref 183) (.ref 205) x [(5, .int v1)]) (mP'_ok (nC0_is (v5 := v5)) 274 _ rfl) rfl rfl (show mCl (.invokevirtual 87, 12, 2, 0, .retAddr 7) [.long E, .ref 183] h1 = some (12, [.ref 183, .long E], []) from if_pos ⟨rfl, rfl, (show 2 ≤ 2 by decide), (show 0 ≤ 8 by decide), rc7 hs1⟩) k2
  have s13 := wr (v5 := v5) (call := call) 2 (show eR 158 nDflt nC0 2 277 (cL6 (.ref 158) (.ref 183) (.ref 205) x [(5, .int v1)]) [.int v2] h2 = some (280, (6, .int v2) :: cL6 (.ref 158) (.ref 183) (.ref 205) x [(5, .int v1)], [.ref 183], h2) from rfl)
  have s14 := eW_call (k0 := 158) (dflt := nDflt) (Hn := nHn) (dp := 16) (lv := (6, .int v2) :: cL6 (.ref 158) (.ref 183) (.ref 205) x [(5, .int v1)]) (mP'_ok (nC0_is (v5 := v5)) 280 _ rfl) rfl rfl (show mCl (.invokevirtual 88, 235, 1, 0, .retAddr 7) [.ref 183] h2 = some (235, [.ref 183], []) from if_pos ⟨rfl, rfl, (show 1 ≤ 1 by decide), (show 0 ≤ 8 by decide), rc7' g2⟩) k3
  have s15 := wr (v5 := v5) (call := call) 1 (show eR 158 nDflt nC0 1 283 ((6, .int v2) :: cL6 (.ref 158) (.ref 183) (.ref 205) x [(5, .int v1)]) [.int b] h2 = some (285, (6, .int v2) :: cL6 (.ref 158) (.ref 183) (.ref 205) x [(5, .int v1)], [.int v1, .int b], h2) from rfl)
  have s16 := eW.icmp (k0 := 158) (dflt := nDflt) (P := mP' (nCodw v5)) (Hn := nHn) (dp := 16) (call := call) (lv := (6, .int v2) :: cL6 (.ref 158) (.ref 183) (.ref 205) x [(5, .int v1)]) (h := h2) (r := []) (mP'_ok (nC0_is (v5 := v5)) 285 _ rfl) ((cEq32 b v1).trans (decide_eq_true (by rw [hb]))) (show mBr true 285 5 [] = some (290, []) from rfl)
  exact ((((((((((s0.trans s1).trans s2).trans s5).trans s6).trans s7).trans s8).trans s9).trans s12).trans s13).trans s14).trans (s15.trans s16)
set_option maxRecDepth 20000 in
theorem w307 : eW (WW v5 call) 307 ((6, .int v2) :: cL6 (.ref 158) (.ref 183) (.ref 205) x [(5, .int v1)]) [] h 23 (nL (x + Int32.ofInt 5)) [] h := by
  have s5 := wr (v5 := v5) (call := call) 3 (show eR 158 nDflt nC0 3 307 ((6, .int v2) :: cL6 (.ref 158) (.ref 183) (.ref 205) x [(5, .int v1)]) [] h = some (23, (4, .int (x + Int32.ofInt 5)) :: (6, .int v2) :: [(0, .ref 0), (1, .ref 158), (2, .ref 183), (3, .ref 205), (5, .int v1)], [], h) from rfl)
  have s6 := wl (v5 := v5) (call := call) (pc := 23) (st := []) (h := h) (a := nL (x + Int32.ofInt 5)) (b := (4, .int (x + Int32.ofInt 5)) :: (6, .int v2) :: [(0, .ref 0), (1, .ref 158), (2, .ref 183), (3, .ref 205), (5, .int v1)]) (sub_nL rfl rfl rfl rfl rfl)
  exact s5.trans s6
set_option maxRecDepth 20000 in
theorem w290a (hv : v1 = 1) : eW (WW v5 call) 290 ((6, .int v2) :: cL6 (.ref 158) (.ref 183) (.ref 205) x [(5, .int v1)]) [] h 23 (nL (x + Int32.ofInt 5)) [] h := by
  have s1 := wr (v5 := v5) (call := call) 1 (show eR 158 nDflt nC0 1 290 ((6, .int v2) :: cL6 (.ref 158) (.ref 183) (.ref 205) x [(5, .int v1)]) [] h = some (292, (6, .int v2) :: cL6 (.ref 158) (.ref 183) (.ref 205) x [(5, .int v1)], [.int v1], h) from rfl)
  have s2 := eW.cond (k0 := 158) (dflt := nDflt) (P := mP' (nCodw v5)) (Hn := nHn) (dp := 16) (call := call) (lv := (6, .int v2) :: cL6 (.ref 158) (.ref 183) (.ref 205) x [(5, .int v1)]) (h := h) (r := []) (mP'_ok (nC0_is (v5 := v5)) 292 _ rfl) (show mCnd .ne v1 0 = true by rw [hv]; decide) (show mBr true 292 15 [] = some (307, []) from rfl)
  exact (s1.trans s2).trans w307
set_option maxRecDepth 20000 in
theorem w290b {q : Nat → Int64} (hv : v1 = 0) (hq : h[(205 : Nat)]? = some (some (.inl (1, 1, .inr (.inl q))))) (hs : q 0 = v2.toInt64) : eW (WW v5 call) 290 ((6, .int v2) :: cL6 (.ref 158) (.ref 183) (.ref 205) x [(5, .int v1)]) [] h 23 (nL (x + Int32.ofInt 5)) [] h := by
  have s1 := wr (v5 := v5) (call := call) 1 (show eR 158 nDflt nC0 1 290 ((6, .int v2) :: cL6 (.ref 158) (.ref 183) (.ref 205) x [(5, .int v1)]) [] h = some (292, (6, .int v2) :: cL6 (.ref 158) (.ref 183) (.ref 205) x [(5, .int v1)], [.int v1], h) from rfl)
  have s2 := eW.cond (k0 := 158) (dflt := nDflt) (P := mP' (nCodw v5)) (Hn := nHn) (dp := 16) (call := call) (lv := (6, .int v2) :: cL6 (.ref 158) (.ref 183) (.ref 205) x [(5, .int v1)]) (h := h) (r := []) (mP'_ok (nC0_is (v5 := v5)) 292 _ rfl) (show mCnd .ne v1 0 = false by rw [hv]; decide) (show mBr false 292 15 [] = some (295, []) from rfl)
  have s3 := wr (v5 := v5) (call := call) 2 (show eR 158 nDflt nC0 2 295 ((6, .int v2) :: cL6 (.ref 158) (.ref 183) (.ref 205) x [(5, .int v1)]) [] h = some (297, (6, .int v2) :: cL6 (.ref 158) (.ref 183) (.ref 205) x [(5, .int v1)], [.int 0, .ref 205], h) from rfl)
  have s4 := eW.e (k0 := 158) (dflt := nDflt) (Hn := nHn) (dp := 16) (call := call) (mP'_ok (nC0_is (v5 := v5)) 297 _ rfl) (eS_lal (k0 := 158) (dflt := nDflt) (o := (0, 0, 0, .null)) (pc := 297) (lv := (6, .int v2) :: cL6 (.ref 158) (.ref 183) (.ref 205) x [(5, .int v1)]) (r := []) hq)
  have s5 := wr (v5 := v5) (call := call) 3 (show eR 158 nDflt nC0 3 298 ((6, .int v2) :: cL6 (.ref 158) (.ref 183) (.ref 205) x [(5, .int v1)]) [.long (q 0)] h = some (302, (6, .int v2) :: cL6 (.ref 158) (.ref 183) (.ref 205) x [(5, .int v1)], [.int (lg_cmp (q 0) v2.toInt64)], h) from rfl)
  have s6 := eW.cond (k0 := 158) (dflt := nDflt) (P := mP' (nCodw v5)) (Hn := nHn) (dp := 16) (call := call) (lv := (6, .int v2) :: cL6 (.ref 158) (.ref 183) (.ref 205) x [(5, .int v1)]) (h := h) (r := []) (mP'_ok (nC0_is (v5 := v5)) 302 _ rfl) ((cEq (q 0) v2.toInt64).trans (decide_eq_true (by rw [hs]))) (show mBr true 302 5 [] = some (307, []) from rfl)
  exact (((((s1.trans s2).trans s3).trans s4).trans s5).trans s6).trans w307
end WY
