/-! THE LAW'S THREE CASES, step by step -/
abbrev nL (x : Int32) : mL := [(4, .int x), (0, .ref 0), (1, .ref 158), (2, .ref 183), (3, .ref 205)]
abbrev WW (v5 : Value) (call : Nat → List Value → mH → Option (mO × mH)) : Nat → Nat → mL → List Value → mH → Option (mO × mH) := fun n => evF 158 nDflt (mP' (nCodw v5)) nHn 16 call n 0
section WY
variable {v5 : Value} {call : Nat → List Value → mH → Option (mO × mH)} {h h1 h2 : mH} {x v1 v2 : Int32}
theorem nC0_is : nCodw v5 0 = nC0 := rfl
theorem wr (j : Nat) {pc : Nat} {lv : mL} {st : List Value} {q : Nat × mL × List Value × mH} (hr : eR 158 nDflt nC0 j pc lv st h = some q) : eW (WW v5 call) pc lv st h q.1 q.2.1 q.2.2.1 q.2.2.2 := eW.r (k0 := 158) (dflt := nDflt) (Hn := nHn) (dp := 16) (call := call) (mP'_ok nC0_is) j hr
theorem wl {pc : Nat} {a b : mL} {st : List Value} (hs : rSubl a b) : eW (WW v5 call) pc b st h pc a st h := eW.lv hs
theorem rc0 (hs : shP h) : (match (h[(158 : Nat)]? : Option mC) with
  | some (some (.inr (ci, _))) => (ci == 0)
  | _ => false) = true := by
  have e : h[(158 : Nat)]? = some (zCell (zOf h) 0) := hs.2 0 (by decide)
  rw [e]
  rfl
theorem rc7' {gs : List Value} (e : h[(183 : Nat)]? = some (some (.inr (7, gs)))) : (match (h[(183 : Nat)]? : Option mC) with
  | some (some (.inr (ci, _))) => (ci == 7)
  | _ => false) = true := by
  rw [e]
  rfl
theorem rc7 (hs : shP h) : (match (h[(183 : Nat)]? : Option mC) with
  | some (some (.inr (ci, _))) => (ci == 7)
  | _ => false) = true := rc7' (hs.2 25 (by decide))
theorem sub_nL {x : Int32} {b : mL} (h4 : mLd b 4 = some (.int x)) (h0 : mLd b 0 = some (.ref 0)) (h1 : mLd b 1 = some (.ref 158)) (h2 : mLd b 2 = some (.ref 183)) (h3 : mLd b 3 = some (.ref 205)) : rSubl (nL x) b := by
  intro q hq
  simp only [List.mem_cons, List.not_mem_nil, or_false] at hq
  rcases hq with rfl | rfl | rfl | rfl | rfl
  · exact h4
  · exact h0
  · exact h1
  · exact h2
  · exact h3
/-- what field 0 of the reference is -/
theorem get235 (hcl : ∀ ce as h r, call ce as h = some r ↔ ∃ n, zEv v5 15 n ce as h = some r) {gs : List Value} {b : Int32} (e : h[(183 : Nat)]? = some (some (.inr (7, gs)))) (e0 : gs[(0 : Nat)]? = some (.int b)) : call 235 [.ref 183] h = some (.inl (some (.int b)), h) := by
  refine (hcl _ _ _ _).mpr ⟨3, ?_⟩
  have hC : nCodw v5 235 = nC235 := rfl
  have a1 := evF_r (k0 := 158) (dflt := nDflt) (P := mP' (nCodw v5)) (Hn := nHn) (dp := 15) (call := evM 158 nDflt (mP' (nCodw v5)) nHn nMxx' 14 3) (mP'_ok hC) 1 2 (show eR 158 nDflt nC235 1 0 [(0, .ref 183)] [] h = some (1, [(0, .ref 183)], [.ref 183], h) from rfl)
  have e1 : mG (.getfield 82) 7 0 .null [.ref 183] h = some [.int b] := by
    unfold mG
    dsimp only
    rw [e]
    dsimp only
    rw [e0]
    rfl
  have a2 := evF_e (k0 := 158) (dflt := nDflt) (P := mP' (nCodw v5)) (Hn := nHn) (dp := 15) (call := evM 158 nDflt (mP' (nCodw v5)) nHn nMxx' 14 3) (n := 1) (mi := 235) (mP'_ok hC 1 _ rfl) (show eS 158 nDflt (.getfield 82, 7, 0, 0, .null) 1 [(0, .ref 183)] [.ref 183] h = some (4, [(0, .ref 183)], [.int b], h) by simp [eS, mRt, mTh, mNw, mCl, mIv, mNx, mA, mB, mD, mJ, e1, mLen])
  have a3 : evF 158 nDflt (mP' (nCodw v5)) nHn 15 (evM 158 nDflt (mP' (nCodw v5)) nHn nMxx' 14 3) 1 235 4 [(0, .ref 183)] [.int b] h = some (.inl (some (.int b)), h) := by
    unfold evF
    rw [mP'_ok hC 4 _ rfl]
    rfl
  have a := (a1.trans a2).trans a3
  show evM 158 nDflt (mP' (nCodw v5)) nHn nMxx' 15 3 235 [.ref 183] h = _
  unfold evM
  exact a
end WY
