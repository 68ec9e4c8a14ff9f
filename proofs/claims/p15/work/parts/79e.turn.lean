/-! ONE TURN of the law's loop -/
def nAnk : List rR := [(nTf, .inl (some (.int 1)), (nThk, rMk 9 0))]
def thkB : Bool := (List.range 206).all (fun i => (Nat.ble 155 i && Nat.blt i 158) || (match rGt nThk i with
  | some (some _) => true
  | _ => false))
set_option maxRecDepth 100000 in
theorem thkV : thkB = true := by decide +kernel
theorem thk_no {i : Nat} (hi : i < 206) (hn : rNo nThk i) : 155 ≤ i ∧ i < 158 := by
  have h := List.all_eq_true.mp thkV i (List.mem_range.mpr hi)
  rw [Bool.or_eq_true, Bool.and_eq_true] at h
  rcases h with ⟨h1, h2⟩ | h
  · exact ⟨Nat.le_of_ble_eq_true h1, Nat.le_of_ble_eq_true h2⟩
  · rcases hn with hn | hn
    · rw [hn] at h
      cases h
    · rw [hn] at h
      cases h
section TU
variable {ρ : List Int} {c0 c1 hc : mH}
theorem rHr_1 {l : List rC} {w : Value} {i : Nat} {a : (Nat × Nat × Int × Int) ⊕ (Nat × List Value)} {c : mC} (hh : rHr c0 ρ (l, w) hc) (hx : hc[i]? = some c) (hr : rCr ρ (some a) c) : rHr c0 ρ (l.set (rX' i) (some a), w) hc := by
  obtain ⟨a1, b, c1, d⟩ := hh
  refine ⟨a1, fun j q hq => ?_, fun j hj hn => ?_, ?_⟩
  · have hq' : rGt (l.set (rX' i) (some a)) j = some q := hq
    rw [rGt_set] at hq'
    by_cases e : i = j
    · rw [if_pos e] at hq'
      split at hq'
      · cases hq'
        exact ⟨c, by rw [← e]; exact hx, hr⟩
      · cases hq'
    · rw [if_neg e] at hq'
      exact b j q hq'
  · have hn' : rNo (l.set (rX' i) (some a)) j := hn
    unfold rNo at hn'
    rw [rGt_set] at hn'
    by_cases e : i = j
    · rw [if_pos e] at hn'
      refine c1 j hj ?_
      split at hn'
      · rcases hn' with q | q <;> cases q
      · rename_i k
        left
        rw [← e]
        unfold rGt
        exact List.getElem?_eq_none (show l.length ≤ rX' i by omega)
    · rw [if_neg e] at hn'
      exact c1 j hj hn'
  · show (l.set (rX' i) (some a)).length ≤ 206
    rw [List.length_set]
    exact d
theorem rHr_thk {w : Value} {f : Nat → Int32} {len : Int32} (hh : rHr c0 ρ (nTh, w) hc) (hx : xTx hc f len) (ht : okT f len) : rHr c0 ρ (nThk, w) hc := by
  have h1 := rHr_1 (i := 168) (a := .inl (2, 240, 0, 65535)) hh hx.1 (rCr.mint (by decide) (by decide) (fun j hj => by have := ht.2.2 j hj; omega))
  exact rHr_1 (i := 190) (a := .inl (0, 240, -2147483648, 2147483647)) h1 hx.2.1 (rCr.mint (by decide) (by decide) (fun j hj => by have := ht.2.2 j hj; omega))
theorem rHr_c0' {l : List rC} {w : Value} (hh : rHr c0 ρ (l, w) hc) (h0 : ∀ i, i < 206 → rNo l i → c1[i]? = c0[i]?) : rHr c1 ρ (l, w) hc := ⟨hh.1, hh.2.1, fun i hi hn => (hh.2.2.1 i hi hn).trans (h0 i hi hn).symm, hh.2.2.2⟩
theorem rHr_self {r : rH} (hh : rHr c0 ρ r hc) : rHr hc ρ r hc := ⟨hh.1, hh.2.1, fun _ _ _ => rfl, hh.2.2.2⟩
theorem ans_c0 {E : Nat → Nat → mL → List Value → mH → Option (mO × mH)} {pc : Nat} {lc : mL} {st : List Value} {hx : mH} (h : rAns c0 [] nAnk E pc lc st hx) (h0 : ∀ i, 155 ≤ i → i < 158 → c1[i]? = c0[i]?) : rAns c1 [] nAnk E pc lc st hx := by
  obtain ⟨r, r1, ex, r2, oc, hF, r3, r4, r5⟩ := h
  have hr := List.mem_singleton.mp r1
  subst hr
  exact ⟨_, List.mem_singleton.mpr rfl, ex, r2, oc, hF, r3, rHr_c0' r4 (fun i hi hn => h0 i (thk_no hi hn).1 (thk_no hi hn).2), r5⟩
end TU
def nQ (ρ : List Int) (lc : mL) (hc : mH) : Prop := rRe hc ρ nT lc hc ∧ zC0 (hc.take 158) ∧ bS (hc.take 158) ∧ shP hc ∧ ∃ f len, nR hc f len ∧ ∃ x : Int32, mLd lc 4 = some (.int x) ∧ sdN hc ≤ 100 * x.toInt
abbrev nA (v5 : Value) (call : Nat → List Value → mH → Option (mO × mH)) (lc : mL) (hc : mH) : Prop := rAns hc [] nAnk (WW v5 call) 23 lc [] hc
theorem rE_5 {ρ : List Int} {x : Int32} (h : ρ[8]? = some x.toInt) : rE ρ (rMk 8 5) = some (.int (x + Int32.ofInt 5)) := by
  obtain ⟨b, e1, e2, e3⟩ := rMk_id (id := 8) (off := 5) (by omega) (by omega) (by omega)
  rw [e1, rE_f, e2, e3, h]
  show some (Value.int (Int32.ofInt (x.toInt + 5))) = _
  rw [Int32.ofInt_add, Int32.ofInt_toInt]
theorem go_01 {v5 : Value} {h h1 g2 : mH} {d n : Nat} {p v2 : Int32} (hz : zC0 (h.take 158)) (ho : h1.take 158 = h.take 158) (e2 : zEv v5 d n 16 [.ref 183, .int p] (hN h1) = some (.inl (some (.int v2)), g2)) : v2 = 0 ∨ v2 = 1 := by
  rw [hN_of ho] at e2
  rcases z16 hz e2 with ⟨_, b⟩ | ⟨_, b⟩
  · cases b
    exact .inl rfl
  · cases b
    exact b01 _
section BD
variable {v5 : Value} {call : Nat → List Value → mH → Option (mO × mH)}
/-- behind a case -/
theorem turn_fin {ρh zs : List Int} {hc h2 : mH} {x : Int32} {lc : mL} {f' : Nat → Int32} {len' : Int32} (q : h2.take 158 = hc.take 158) (z1 : rRe h2 (ρh.take 8 ++ zs) nT (nL (x + Int32.ofInt 5)) h2) (z2 : rPo2 (23, nT, nLp, 8) ρh zs) (hs2 : shP h2) (hz : zC0 (hc.take 158)) (hb : bS (hc.take 158)) (hop : opN hc h2 f' len') (hsd : sdN hc ≤ 100 * x.toInt) (x0 : 0 ≤ x.toInt) (x5 : x.toInt ≤ 10000) (hk : ∀ zs' lc' hc', nQ (ρh.take 8 ++ zs') lc' hc' → rPo2 (23, nT, nLp, 8) ρh zs' → nA v5 call lc' hc') (way : eW (WW v5 call) 23 lc [] hc 23 (nL (x + Int32.ofInt 5)) [] h2) : nA v5 call lc hc := by
  have e5 : (x + Int32.ofInt 5).toInt = x.toInt + 5 := by
    rw [Int32.toInt_add, show (Int32.ofInt 5).toInt = 5 from rfl, bm32 (by omega) (by omega)]
  have h500 := hop.2
  have a := hk zs _ h2 ⟨z1, by rw [q]; exact hz, by rw [q]; exact hb, hs2, f', len', hop.1, x + Int32.ofInt 5, rfl, by rw [e5]; omega⟩ z2
  exact (ans_c0 a (fun i i1 i2 => by rw [← take_at (h := hc) i2, ← q, take_at i2])).back way
end BD
section TN
variable {v5 : Value} {call : Nat → List Value → mH → Option (mO × mH)}
set_option maxRecDepth 20000 in
set_option maxHeartbeats 1000000 in
theorem nBody (h5 : nFv v5) (hcl : ∀ ce as h r, call ce as h = some r ↔ ∃ n, evM 158 nDflt (mP' (nCodw v5)) nHn nMxx' 15 n ce as h = some r) {ρh : List Int} {lc : mL} {hc : mH} (hO : rOk ρh nTf) (hQ : nQ ρh lc hc) (hk : ∀ zs' lc' hc', nQ (ρh.take 8 ++ zs') lc' hc' → rPo2 (23, nT, nLp, 8) ρh zs' → nA v5 call lc' hc') : nA v5 call lc hc := by
  obtain ⟨hre, hz, hbS, hsP, tf, len, hR, x4, hx4, hsd⟩ := hQ
  have hx := nR_tx hR hsP
  have ht := hR.2.2.2.1
  obtain ⟨⟨l, hl, hsub⟩, hh⟩ := hre
  have hlen : ρh.length = 83 := hO.1.trans nTf_len
  have hl' : rEv ρh [(4, rMk 8 0), (0, .ref 0), (1, .ref 158), (2, .ref 183), (3, .ref 205)] = some l := hl
  obtain ⟨_, l1, r8, hl1, e1⟩ := rEv_cons hl'
  cases hl1
  obtain ⟨x, rfl, x0, x1⟩ := rRg_ok hO nT_8 r8
  dsimp only at x0 x1 e1
  subst e1
  obtain ⟨L, f, b, w1, w2, w3, w4, w5, w6, w7, w8⟩ := nWin_ok hh nT_win
  obtain ⟨y, hy, y0, y1⟩ := rRg_ok hO nT_0 w5
  cases hy
  rw [rOfN w2] at y0 y1
  dsimp only at y0 y1
  have hC : nCodw v5 0 = nC0 := rfl
  have hs5 : rSubl (cL5 (.ref 158) (.ref 183) (.ref 205) x) lc := rSub5 (hsub.ld rfl) (hsub.ld rfl) (hsub.ld rfl) (hsub.ld rfl) (hsub.ld rfl)
  have s0 : eW (fun n => evF 158 nDflt (mP' (nCodw v5)) nHn 16 call n 0) 23 lc [] hc 23 (cL5 (.ref 158) (.ref 183) (.ref 205) x) [] hc := eW.lv hs5
  have s1 := eW.r (k0 := 158) (dflt := nDflt) (Hn := nHn) (dp := 16) (call := call) (mP'_ok hC) 2 (show eR 158 nDflt nC0 2 23 (cL5 (.ref 158) (.ref 183) (.ref 205) x) [] hc = some (26, cL5 (.ref 158) (.ref 183) (.ref 205) x, [.ref 0, .int x], hc) from rfl)
  have s2 := eW.e (k0 := 158) (dflt := nDflt) (Hn := nHn) (dp := 16) (call := call) (mP'_ok hC 26 _ rfl) (eS_len (k0 := 158) (dflt := nDflt) (o := (0, 0, 0, .null)) (pc := 26) (lv := cL5 (.ref 158) (.ref 183) (.ref 205) x) (r := [.int x]) w1)
  have s3 := eW.r (k0 := 158) (dflt := nDflt) (Hn := nHn) (dp := 16) (call := call) (mP'_ok hC) 2 (show eR 158 nDflt nC0 2 27 (cL5 (.ref 158) (.ref 183) (.ref 205) x) [.int (Int32.ofNat L), .int x] hc = some (29, cL5 (.ref 158) (.ref 183) (.ref 205) x, [.int (Int32.ofNat L - Int32.ofInt 5), .int x], hc) from rfl)
  have t1 := ((s0.trans s1).trans s2).trans s3
  have e5 : (Int32.ofInt 5).toInt = 5 := by decide
  have eL : (Int32.ofNat L - Int32.ofInt 5).toInt = L - 5 := by
    rw [rSub_ok (by rw [rOfN w2, e5]; unfold rI0; omega) (by rw [rOfN w2, e5]; unfold rI1; omega), rOfN w2, e5]
  by_cases hxx : (L : Int) - 5 < x.toInt
  · have s4 := eW.icmp (k0 := 158) (dflt := nDflt) (P := mP' (nCodw v5)) (Hn := nHn) (dp := 16) (call := call) (lv := cL5 (.ref 158) (.ref 183) (.ref 205) x) (h := hc) (r := []) (mP'_ok hC 29 _ rfl) ((cGt32 x (Int32.ofNat L - Int32.ofInt 5)).trans (decide_eq_true (by rw [eL]; exact hxx))) (show mBr true 29 611 [] = some (640, []) from rfl)
    have s5 := eW.r (k0 := 158) (dflt := nDflt) (Hn := nHn) (dp := 16) (call := call) (mP'_ok hC) 1 (show eR 158 nDflt nC0 1 640 (cL5 (.ref 158) (.ref 183) (.ref 205) x) [] hc = some (641, cL5 (.ref 158) (.ref 183) (.ref 205) x, [.int 1], hc) from rfl)
    have fin : ∃ n, evF 158 nDflt (mP' (nCodw v5)) nHn 16 call n 0 641 (cL5 (.ref 158) (.ref 183) (.ref 205) x) [.int 1] hc = some (.inl (some (.int 1)), hc) := by
      refine ⟨1, ?_⟩
      conv => lhs; unfold evF
      rw [mP'_ok hC 641 _ rfl]
      rfl
    exact ⟨_, List.mem_cons_self, ρh, hO, _, hc, ⟨_, rfl, rfl⟩, rHr_thk hh hx ht, ((t1.trans s4).trans s5) _ fin⟩
  · have s4 := eW.icmp (k0 := 158) (dflt := nDflt) (P := mP' (nCodw v5)) (Hn := nHn) (dp := 16) (call := call) (lv := cL5 (.ref 158) (.ref 183) (.ref 205) x) (h := hc) (r := []) (mP'_ok hC 29 _ rfl) ((cGt32 x (Int32.ofNat L - Int32.ofInt 5)).trans (decide_eq_false (by rw [eL]; exact hxx))) (show mBr false 29 611 [] = some (32, []) from rfl)
    have hsl : rSubl ((4, .int x) :: [(0, .ref 0), (1, .ref 158), (2, .ref 183), (3, .ref 205)]) (cL5 (.ref 158) (.ref 183) (.ref 205) x) := by
      intro q hq
      simp only [List.mem_cons, List.not_mem_nil, or_false] at hq
      rcases hq with rfl | rfl | rfl | rfl | rfl <;> rfl
    have s5 : eW (fun n => evF 158 nDflt (mP' (nCodw v5)) nHn 16 call n 0) 32 (cL5 (.ref 158) (.ref 183) (.ref 205) x) [] hc 32 ((4, .int x) :: [(0, .ref 0), (1, .ref 158), (2, .ref 183), (3, .ref 205)]) [] hc := eW.lv hsl
    have h5' : x.toInt + 5 ≤ L := by omega
    obtain ⟨z, z1, z2, z3⟩ := hO.2.1 8 (0, 2560) rfl
    have hz8 : z = x.toInt := by
      obtain ⟨b8, e1, e2, e3⟩ := rMk_id (id := 8) (off := 0) (by omega) (by omega) (by omega)
      rw [e1, rE_f, e2, e3, z1] at r8
      have r8' : Int32.ofInt (z + 0) = x := by injection r8 with r8; injection r8
      rw [← r8', Int.add_zero]
      exact (rInt (by unfold rI0; omega) (by unfold rI1; omega)).symm
    have hO1 : rOk ρh (nTf.set 8 (0, 2555)) := hO.cut z1 (by dsimp only at z2 ⊢; omega) (by dsimp only; omega) (rCd_real (by decide) (by decide) _)
    have hO2 := rOk_w hO1 f x.toInt.toNat
    have hh2 := (rHr_ext (nWv f x.toInt.toNat) hh).set (a' := nWc) (c := some (.inl (4, L, .inl f))) 0 (b' := .inr (1002, [rMk 0 0, rMk 75 0, rMk 76 0, rMk 77 0, rMk 78 0, rMk 79 0, rMk 80 0, .double 81, rMk 82 0])) rfl (nWc_ok hlen w2 x0 h5' w5 r8)
    rw [rSet_same w1] at hh2
    have ex4 : x4 = x := by
      have h4 : mLd lc 4 = some (.int x) := hsub.ld rfl
      rw [h4] at hx4
      injection hx4 with hx4
      injection hx4 with hx4
      exact hx4.symm
    subst ex4
    have h8 : (ρh ++ nWv f x4.toInt.toNat)[8]? = some x4.toInt := by
      rw [List.getElem?_append_left (by omega), z1, hz8]
    have hlc : rEv (ρh ++ nWv f x4.toInt.toNat) nLc5 = some (nL (x4 + Int32.ofInt 5)) := rEv_mk (rE_5 h8) rfl
    obtain ⟨a84, a85, a86, a87, a88⟩ := wv (f := f) (i := x4.toInt.toNat) hlen
    have hin : mIn x4 L = true := by
      have := (cIn (j := 0) x0 h5' w2 (by decide)).1
      have e : x4 + Int32.ofInt ((0 : Nat) : Int) = x4 := Int32.add_zero x4
      rw [e] at this
      exact this
    obtain ⟨nc, hw⟩ := wyh (v5 := v5) (call := call) (x := x4) w1 hin
    have way0 := ((t1.trans s4).trans s5).trans hw
    have hg : nG0.length ≤ 1000 := by rw [nG0_len]; decide
    have hB : shB (nKn nHp0 nG0.length) = true := by rw [nG0_len]; exact shB0
    have hρ : ∃ e, ρh ++ nWv f x4.toInt.toNat = ρh ++ e := ⟨_, rfl⟩
    have xb : x4.toInt ≤ 10000 := by omega
    have c0' : ∀ {h1 : mH}, h1.take 158 = hc.take 158 → h1[0]? = some (some (.inl (4, L, .inl f))) := fun {h1} q => by
      rw [← take_at (h := h1) (by decide), q, take_at (by decide), w1]
    obtain ⟨n, hn⟩ := nc
    have hcase : n = 0 ∨ n = 1 ∨ n = 2 ∨ n = 3 ∨ n = 4 ∨ n = 5 ∨ n = 6 ∨ n = 7 ∨ n = 8 ∨ n = 9 ∨ n = 10 ∨ n = 11 ∨ n = 12 ∨ n = 13 ∨ n = 14 ∨ n = 15 := by omega
    rcases hcase with rfl | rfl | rfl | rfl | rfl | rfl | rfl | rfl | rfl | rfl | rfl | rfl | rfl | rfl | rfl | rfl
    · have hv86 : rVal (ρh ++ nWv f x4.toInt.toNat) (rMk 86 0) (f (x4.toInt.toNat + 3)).toInt := by
        obtain ⟨q, e1, e2, e3⟩ := rMk_id (id := 86) (off := 0) (by omega) (by omega) (by omega)
        rw [e1]
        have : (ρh ++ nWv f x4.toInt.toNat)[83 + 3]? = some (f (x4.toInt.toNat + 3)).toInt := rW_at (j := 3) hlen
        exact ⟨(f (x4.toInt.toNat + 3)).toInt, by rw [e2]; exact this, by rw [e3, Int.add_zero]⟩
      have b1 := Int32.le_toInt (f (x4.toInt.toNat + 3))
      have b2 := Int32.toInt_lt (f (x4.toInt.toNat + 3))
      obtain ⟨g, g1, g2⟩ := rSpl_ok hv86 (by unfold rL0; omega) (by unfold rL1; omega) (ps := [1, 2, 3, 4, 5, 6, 7, 8, 9]) hO2
      have gl : g.length = nG0.length := g2.1.symm.trans hO2.1
      obtain ⟨hs, v1, h1, v2, h2, k1, k2, ⟨n1, y1, y2, y3⟩, ⟨n2, u1, u2, u3⟩, t1', t2', hs1, hs2, zs, z1', z2'⟩ := two_ok h5 hcl (by rw [gl]; exact hg) (List.all_eq_true.mp ck0 g g1) g2 hh2 hx.1 hx.2.1 ht.2.2 (by rw [gl]; exact hB) (rEs_mk rfl (rEs_mk a88 (rEs_mk a86 (rEs_mk rfl rfl)))) (rEs_mk rfl (rEs_mk a88 (rEs_mk a86 rfl))) hρ hO.1 hlc
      obtain ⟨f', len', op⟩ := write_n hz hs hR y2 y3 t1' u2 u3
      exact turn_fin (t2'.trans t1') z1' z2' hs2 hz hbS op hsd x0 xb hk (way0.trans (wy0 hs1 w1 (c0' t1') w2 x0 h5' k1 k2))
    · obtain ⟨hs, v1, h1, v2, h2, k1, k2, ⟨n1, y1, y2, y3⟩, ⟨n2, u1, u2, u3⟩, t1', t2', hs1, hs2, zs, z1', z2'⟩ := two_ok h5 hcl hg (ck1) hO2 hh2 hx.1 hx.2.1 ht.2.2 hB (rEs_mk rfl rfl) (rEs_mk rfl rfl) hρ hO.1 hlc
      have op := erase_n hz hs hR y2 y3 t1' u2 u3
      exact turn_fin (t2'.trans t1') z1' z2' hs2 hz hbS op hsd x0 xb hk (way0.trans (wy1 hs hs1 k1 k2))
    · obtain ⟨hs, v1, h1, v2, h2, k1, k2, ⟨n1, y1, y2, y3⟩, ⟨n2, u1, u2, u3⟩, t1', t2', hs1, hs2, zs, z1', z2'⟩ := two_ok h5 hcl hg (ck2) hO2 hh2 hx.1 hx.2.1 ht.2.2 hB (rEs_mk rfl (rEs_mk rfl rfl)) (rEs_mk rfl rfl) hρ hO.1 hlc
      have op := asm_n hz hs hR y2 y3 t1' u2 u3
      exact turn_fin (t2'.trans t1') z1' z2' hs2 hz hbS op hsd x0 xb hk (way0.trans (wy2 hs1 k1 k2))
    · obtain ⟨hs, v1, h1, v2, h2, k1, k2, ⟨n1, y1, y2, y3⟩, ⟨n2, u1, u2, u3⟩, t1', t2', hs1, hs2, zs, z1', z2'⟩ := two_ok h5 hcl hg (ck3) hO2 hh2 hx.1 hx.2.1 ht.2.2 hB (rEs_mk rfl rfl) (rEs_mk rfl rfl) hρ hO.1 hlc
      have op := line_ex hz hR y2 y3 t1' u2 u3
      exact turn_fin (t2'.trans t1') z1' z2' hs2 hz hbS op hsd x0 xb hk (way0.trans (wy3 hs hs1 k1 k2))
    · obtain ⟨hs, v1, h1, v2, h2, k1, k2, ⟨n1, y1, y2, y3⟩, ⟨n2, u1, u2, u3⟩, t1', t2', hs1, hs2, zs, z1', z2'⟩ := two_ok h5 hcl hg (ck4) hO2 hh2 hx.1 hx.2.1 ht.2.2 hB (rEs_mk rfl (rEs_mk a88 (rEs_mk rfl rfl))) (rEs_mk rfl (rEs_mk a88 rfl)) hρ hO.1 hlc
      have op := symb_ex hz hR y2 y3 t1' u2 u3
      exact turn_fin (t2'.trans t1') z1' z2' hs2 hz hbS op hsd x0 xb hk (way0.trans (wy4 hs1 w1 (c0' t1') w2 x0 h5' k1 k2))
    · obtain ⟨hs, v1, h1, v2, h2, k1, k2, ⟨n1, y1, y2, y3⟩, ⟨n2, u1, u2, u3⟩, t1', t2', hs1, hs2, zs, z1', z2'⟩ := two_ok h5 hcl hg (ck5) hO2 hh2 hx.1 hx.2.1 ht.2.2 hB (rEs_mk rfl (rEs_mk a84 (rEs_mk rfl rfl))) (rEs_mk rfl (rEs_mk a84 rfl)) hρ hO.1 hlc
      have op := step_ex hz hbS hR (by omega) y2 y3 t1' u2 u3
      exact turn_fin (t2'.trans t1') z1' z2' hs2 hz hbS op.n hsd x0 xb hk (way0.trans (wy5 hs1 w1 (c0' t1') w2 x0 h5' k1 k2))
    · obtain ⟨hs, v1, h1, v2, h2, k1, k2, ⟨n1, y1, y2, y3⟩, ⟨n2, u1, u2, u3⟩, t1', t2', hs1, hs2, zs, z1', z2'⟩ := two_ok h5 hcl hg (ck6) hO2 hh2 hx.1 hx.2.1 ht.2.2 hB (rEs_mk rfl (rEs_mk a84 (rEs_mk rfl rfl))) (rEs_mk rfl (rEs_mk a84 rfl)) hρ hO.1 hlc
      have op := go_ex hz hR y2 y3 t1' u2 u3
      exact turn_fin (t2'.trans t1') z1' z2' hs2 hz hbS op.n hsd x0 xb hk (way0.trans (wy6 hs1 w1 (c0' t1') w2 x0 h5' k1 k2))
    · obtain ⟨hs, v1, h1, v2, h2, k1, k2, ⟨n1, y1, y2, y3⟩, ⟨n2, u1, u2, u3⟩, t1', t2', hs1, hs2, zs, z1', z2'⟩ := two_ok h5 hcl hg (ck7) hO2 hh2 hx.1 hx.2.1 ht.2.2 hB (rEs_mk rfl (rEs_mk a84 (rEs_mk a85 (rEs_mk rfl rfl)))) (rEs_mk rfl (rEs_mk a84 (rEs_mk a85 rfl))) hρ hO.1 hlc
      have op := poke_ex hz hR y2 y3 t1' u2 u3
      exact turn_fin (t2'.trans t1') z1' z2' hs2 hz hbS op.n hsd x0 xb hk (way0.trans (wy7 hs1 w1 (c0' t1') w2 x0 h5' k1 k2))
    · obtain ⟨hs, v1, h1, v2, h2, k1, k2, ⟨n1, y1, y2, y3⟩, ⟨n2, u1, u2, u3⟩, t1', t2', hs1, hs2, zs, z1', z2'⟩ := two_ok h5 hcl hg (ck8) hO2 hh2 hx.1 hx.2.1 ht.2.2 hB (rEs_mk rfl (rEs_mk a84 (rEs_mk rfl rfl))) (rEs_mk rfl (rEs_mk a84 rfl)) hρ hO.1 hlc
      have op := word_ex hz hR y2 y3 t1' u2 u3
      exact turn_fin (t2'.trans t1') z1' z2' hs2 hz hbS op.n hsd x0 xb hk (way0.trans (wy8 hs1 w1 (c0' t1') w2 x0 h5' k1 k2))
    · obtain ⟨hs, v1, h1, v2, h2, k1, k2, ⟨n1, y1, y2, y3⟩, ⟨n2, u1, u2, u3⟩, t1', t2', hs1, hs2, zs, z1', z2'⟩ := two_ok h5 hcl hg (ck9) hO2 hh2 hx.1 hx.2.1 ht.2.2 hB (rEs_mk rfl (rEs_mk a84 (rEs_mk rfl rfl))) (rEs_mk rfl (rEs_mk a84 rfl)) hρ hO.1 hlc
      have op := reg_ex hz hR y2 y3 t1' u2 u3
      exact turn_fin (t2'.trans t1') z1' z2' hs2 hz hbS op.n hsd x0 xb hk (way0.trans (wy9 hs1 w1 (c0' t1') w2 x0 h5' k1 k2))
    · obtain ⟨hs, v1, h1, v2, h2, k1, k2, ⟨n1, y1, y2, y3⟩, ⟨n2, u1, u2, u3⟩, t1', t2', hs1, hs2, zs, z1', z2'⟩ := two_ok h5 hcl hg (ck10) hO2 hh2 hx.1 hx.2.1 ht.2.2 hB (rEs_mk rfl (rEs_mk a84 (rEs_mk a85 (rEs_mk a86 (rEs_mk a87 (rEs_mk rfl rfl)))))) (rEs_mk rfl (rEs_mk a84 (rEs_mk a85 (rEs_mk a86 (rEs_mk a87 rfl))))) hρ hO.1 hlc
      have op := card_ex hz hR y2 y3 t1' u2 u3
      exact turn_fin (t2'.trans t1') z1' z2' hs2 hz hbS op.n hsd x0 xb hk (way0.trans (wy10 hs1 w1 (c0' t1') w2 x0 h5' k1 k2))
    · obtain ⟨hs, v1, h1, v2, h2, k1, k2, ⟨n1, y1, y2, y3⟩, ⟨n2, u1, u2, u3⟩, t1', t2', hs1, hs2, zs, z1', z2'⟩ := two_ok h5 hcl hg (ck11) hO2 hh2 hx.1 hx.2.1 ht.2.2 hB (rEs_mk rfl (rEs_mk a84 (rEs_mk a85 (rEs_mk rfl rfl)))) (rEs_mk rfl (rEs_mk a84 (rEs_mk a85 rfl))) hρ hO.1 hlc
      have op := prt_ex hz hR y2 y3 t1' u2 u3
      exact turn_fin (t2'.trans t1') z1' z2' hs2 hz hbS op.n hsd x0 xb hk (way0.trans (wy11 hs1 w1 (c0' t1') w2 x0 h5' k1 k2))
    · obtain ⟨hs, v1, h1, v2, h2, k1, k2, ⟨n1, y1, y2, y3⟩, ⟨n2, u1, u2, u3⟩, t1', t2', hs1, hs2, zs, z1', z2'⟩ := two_ok h5 hcl hg (ck12) hO2 hh2 hx.1 hx.2.1 ht.2.2 hB (rEs_mk rfl (rEs_mk a84 (rEs_mk a85 (rEs_mk rfl rfl)))) (rEs_mk rfl (rEs_mk a84 (rEs_mk a85 rfl))) hρ hO.1 hlc
      have op := tape_ex hz hR y2 y3 t1' u2 u3
      exact turn_fin (t2'.trans t1') z1' z2' hs2 hz hbS op.n hsd x0 xb hk (way0.trans (wy12 hs1 w1 (c0' t1') w2 x0 h5' k1 k2))
    · obtain ⟨hs, v1, h1, v2, h2, k1, k2, ⟨n1, y1, y2, y3⟩, ⟨n2, u1, u2, u3⟩, t1', t2', hs1, hs2, zs, z1', z2'⟩ := two_ok h5 hcl hg (ck13) hO2 hh2 hx.1 hx.2.1 ht.2.2 hB (rEs_mk rfl (rEs_mk a84 (rEs_mk rfl rfl))) (rEs_mk rfl (rEs_mk a84 rfl)) hρ hO.1 hlc
      have op := stat_ex hz hR y2 y3 t1' u2 u3
      obtain ⟨w, w', e1, e2, ⟨gs, g1, g2⟩, hq⟩ := op.2.2
      cases e1
      cases e2
      by_cases hv : v1 = 0
      · obtain ⟨q, q1, q2⟩ := hq hv
        exact turn_fin (t2'.trans t1') z1' z2' hs2 hz hbS op.n hsd x0 xb hk (way0.trans ((wy13 hs1 w1 (c0' t1') w2 x0 h5' k1 k2 g1 (get235 hcl g1 g2) rfl).trans (wyb hv q1 q2)))
      · exact turn_fin (t2'.trans t1') z1' z2' hs2 hz hbS op.n hsd x0 xb hk (way0.trans ((wy13 hs1 w1 (c0' t1') w2 x0 h5' k1 k2 g1 (get235 hcl g1 g2) rfl).trans (wya hv)))
    · obtain ⟨_, zs, z1', z2'⟩ := rBack_ok (c0 := hc) (s := (nG0, 23, nLc5, [], (nUn nHp0, rMk 9 0))) (c := (23, nT, nLp, 8)) (lc := nL (x4 + Int32.ofInt 5)) (hc := hc) (ρh := ρh) hO2 hlc (rHr_un hh2) hρ (by rw [hO.1]; decide) hO.1 ckd
      exact turn_fin rfl z1' z2' hsP hz hbS ⟨hR, Int.le_add_of_nonneg_right (by decide)⟩ hsd x0 xb hk (way0.trans wyd)
    · obtain ⟨_, zs, z1', z2'⟩ := rBack_ok (c0 := hc) (s := (nG0, 23, nLc5, [], (nUn nHp0, rMk 9 0))) (c := (23, nT, nLp, 8)) (lc := nL (x4 + Int32.ofInt 5)) (hc := hc) (ρh := ρh) hO2 hlc (rHr_un hh2) hρ (by rw [hO.1]; decide) hO.1 ckd
      exact turn_fin rfl z1' z2' hsP hz hbS ⟨hR, Int.le_add_of_nonneg_right (by decide)⟩ hsd x0 xb hk (way0.trans wyd)
set_option maxRecDepth 100000 in
theorem shBe : shB (nKn nEh 8) = true := by decide +kernel
/-- from the loop's first turn on -/
theorem nAll' (h5 : nFv v5) (hcl : ∀ ce as h r, call ce as h = some r ↔ ∃ n, evM 158 nDflt (mP' (nCodw v5)) nHn nMxx' 15 n ce as h = some r) {ρ : List Int} {lc : mL} {hc : mH} (hO : rOk ρ nEs.1) (hl : rEv ρ nEs.2.2.1 = some lc) (hh : rHr hc ρ nEs.2.2.2.2 hc) (hz : zC0 (hc.take 158)) (hbS : bS (hc.take 158)) {f : Nat → Int32} {len : Int32} (hx : xTx hc f len) (hR : nR hc f len) (h4 : mLd lc 4 = some (.int 0)) (hsd : sdN hc ≤ 0) : nA v5 call lc hc := by
  have ht := hR.2.2.2.1
  have hs : shP hc := by
    have hh' : rHr hc (ρ ++ [(f 0).toInt]) (nKn nEh 8, .int 0) hc := rHr_kn (by decide) (rHr_ext _ hh) hx.1 hx.2.1 ht.2.2 (by
      have e8 : ρ.length = 8 := hO.1
      rw [← e8, List.getElem?_append_right (Nat.le_refl _), Nat.sub_self]
      rfl)
    exact shP_of shBe hh'
  have hin := nInV
  unfold nIn at hin
  split at hin
  · rename_i vs hvs
    simp only [Bool.and_eq_true] at hin
    obtain ⟨⟨⟨i1, i2⟩, i3⟩, i4⟩ := hin
    have i2' := i2
    unfold rFits at i2'
    simp only [Bool.and_eq_true] at i2'
    obtain ⟨ve, hve⟩ := rAts_ok hl hh hvs i2'.1.1.1.2
    have hn : nEs.1.length ≤ ρ.length := by rw [hO.1]; exact Nat.le_refl _
    have hre := rFits_ok hO hl hh hn hve i2
    have et : ρ.take nEs.1.length = ρ := by rw [← hO.1, List.take_length]
    rw [et] at hre
    exact rLoopX (Q := nQ) (A := nA v5 call) (s := nEs) (t := nT) (lp := nLp) hO hve (of_decide_eq_true i1) i3 i4 ⟨hre, hz, hbS, hs, f, len, hR, 0, h4, by rw [show (0 : Int32).toInt = 0 from rfl]; omega⟩ (fun zs lc2 hc2 hok hre2 hk => nBody h5 hcl hok hre2 hk.2)
  · cases hin
end TN
