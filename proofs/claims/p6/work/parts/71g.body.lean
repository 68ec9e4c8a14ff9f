/-! ONE TURN: what each case comes to -/
theorem nWin3 {ρ : List Int} {c0 : mH} {h : rH} {hc : mH} (hh : rHr c0 ρ h hc) {a0 a1 a2 a3 a4 a5 a6 a7 a8 : Value} (hw : nWin h.1 = some [a0, a1, a2, a3, a4, a5, a6, a7, a8]) : ∃ (L : Nat) (f : Nat → Int32) (b : Int32), hc[0]? = some (some (.inl (4, L, .inl f))) ∧ L ≤ 10000 ∧ 0 ≤ b.toInt ∧ b.toInt + 5 ≤ L ∧ rE ρ a1 = some (.int b) ∧ rE ρ a7 = some (.long (((f (b.toInt.toNat + 1)).toInt64 <<< 32) ||| ((f (b.toInt.toNat + 2)).toInt64 &&& 4294967295))) ∧ rE ρ a5 = some (.int (f (b.toInt.toNat + 3))) := by
  unfold nWin at hw
  split at hw
  · rename_i gs hg
    cases hw
    obtain ⟨c, c1, g, g1, g2⟩ := hh.2.1 _ _ hg
    obtain ⟨L, f, b, x0, x1, x2, x3, x4, f1, f2, f3, f4, e0, e1, e2, e3, e4, rfl⟩ := rOb_2 g2
    obtain ⟨_, l0, r0, g1, q⟩ := rEs_cons g1; cases q
    obtain ⟨_, l1, r1, g1, q⟩ := rEs_cons g1; cases q
    obtain ⟨_, l2, r2, g1, q⟩ := rEs_cons g1; cases q
    obtain ⟨_, l3, r3, g1, q⟩ := rEs_cons g1; cases q
    obtain ⟨_, l4, r4, g1, q⟩ := rEs_cons g1; cases q
    obtain ⟨_, l5, r5, g1, q⟩ := rEs_cons g1; cases q
    obtain ⟨_, l6, r6, g1, q⟩ := rEs_cons g1; cases q
    obtain ⟨_, l7, r7, g1, q⟩ := rEs_cons g1; cases q
    obtain ⟨_, l8, r8, g1, q⟩ := rEs_cons g1; cases q
    rw [f1] at c1
    refine ⟨L, f, b, c1, f2, f3, f4, r1, ?_, ?_⟩
    · rw [e1, e2]; exact r7
    · rw [e3]; exact r5
  · cases hw
theorem rE_5 {ρ : List Int} {x : Int32} (h : ρ[8]? = some x.toInt) : rE ρ (rMk 8 5) = some (.int (x + Int32.ofInt 5)) := by
  obtain ⟨b, e1, e2, e3⟩ := rMk_id (id := 8) (off := 5) (by omega) (by omega) (by omega)
  rw [e1, rE_f, e2, e3, h]
  show some (Value.int (Int32.ofInt (x.toInt + 5))) = _
  rw [Int32.ofInt_add, Int32.ofInt_toInt]
section BD
variable {v5 : Value} {call : Nat → List Value → mH → Option (mO × mH)}
/-- the four cases by hand -/
theorem hand (h5 : nFv v5) (hcl : ∀ ce as h r, call ce as h = some r ↔ ∃ n, zEv v5 15 n ce as h = some r) {ρ ρh : List Int} {hc h : mH} {t : rT} {x y : Int32} {f : Nat → Int32} {len : Int32} (hck : nCkk (.inl t) = true) (hpc : t.2.1 = 108 ∨ t.2.1 = 180 ∨ t.2.1 = 193 ∨ t.2.1 = 222) (hO : rOk ρ t.1) (hh : rHr hc ρ t.2.2.2.2 h) (hρ : ∃ e, ρ = ρh ++ e) (hρl : ρh.length = nTf.length) (h8 : ρ[8]? = some x.toInt) (h85 : ρ[85]? = some y.toInt) (hz : zC0 (hc.take 158)) (hx : xTx h f len) (ht : okT f len) (hkc : yqC h) (hks : yqS h) (hk : ∀ zs' lc' hc', nQ (ρh.take 8 ++ zs') lc' hc' → rPo2 (23, nT, nLp, 8) ρh zs' → nA v5 call lc' hc') : rAns hc [] nAnk (WW v5 call) t.2.1 (nL x) [] h := by
  unfold nCkk at hck
  dsimp only at hck
  simp only [Bool.and_eq_true, decide_eq_true_eq] at hck
  obtain ⟨⟨hlv, hst⟩, hok, hB, hg, hcs⟩ := hck
  have hold : oldB t.2.2.2.2.1 = true := by
    unfold nOk at hok
    rw [Bool.and_eq_true] at hok
    exact hok.1
  have hz' : zC0 (h.take 158) := old_c0 hold hh hz
  have h3 := old3 (l := t.2.2.2.2.1) (w := t.2.2.2.2.2) hold hh
  have hlc : rEv ρ nLc5 = some (nL (x + Int32.ofInt 5)) := rEv_mk (rE_5 h8) rfl
  have hlen : ∀ g, rOk ρ g → g.length = t.1.length := fun g hg => hg.1.symm.trans hO.1
  -- what is left behind the two calls
  have fin : ∀ {h1 h2 : mH} {zs : List Int} {f' : Nat → Int32} {len' : Int32}, h1.take 158 = h.take 158 → h2.take 158 = h1.take 158 → rRe h2 (ρh.take 8 ++ zs) nT (nL (x + Int32.ofInt 5)) h2 → rPo2 (23, nT, nLp, 8) ρh zs → xTx h2 f' len' → okT f' len' → shP h2 → yqS h2 → eW (WW v5 call) t.2.1 (nL x) [] h 23 (nL (x + Int32.ofInt 5)) [] h2 → rAns hc [] nAnk (WW v5 call) t.2.1 (nL x) [] h := by
    intro h1 h2 zs f' len' q1 q2 q3 q4 q5 q6 q8 q9 q7
    have e := q2.trans q1
    have a := hk zs _ h2 ⟨q3, by rw [e]; exact hz', ⟨f', len', q5, q6⟩, yqC_of q8, q9⟩ q4
    exact (ans_c0 a (fun i i1 i2 => by
      rw [← h3 i i1 i2, ← take_at (h := h) i2, ← e, take_at i2])).back q7
  rcases hpc with e | e | e | e
  · rw [if_pos e] at hcs
    simp only [Bool.and_eq_true, decide_eq_true_eq, List.all_eq_true] at hcs
    obtain ⟨hw, hcs⟩ := hcs
    obtain ⟨L, F, b, w1, w2, w3, w4, w6, w7, w8⟩ := nWin3 hh hw
    have hb : b = x := by
      have := rE_at (ρ := ρ) (id := 8) (x := x) (by decide) h8
      rw [this] at w6
      injection w6 with w6
      injection w6 with w6
      exact w6.symm
    subst hb
    have hv : rVal ρ (rMk 85 0) y.toInt := by
      obtain ⟨q, e1, e2, e3⟩ := rMk_id (id := 85) (off := 0) (by omega) (by omega) (by omega)
      rw [e1]
      exact ⟨y.toInt, by rw [e2]; exact h85, by rw [e3, Int.add_zero]⟩
    have b1 := Int32.le_toInt y
    have b2 := Int32.toInt_lt y
    obtain ⟨g, g1, g2⟩ := rSpl_ok hv (by unfold rL0; omega) (by unfold rL1; omega) (ps := [1, 2, 3, 4, 5, 6, 7, 8, 9]) hO
    obtain ⟨hs, v1, h1, v2, h2, k1, k2, ⟨n1, y1, y2, y3⟩, ⟨n2, u1, u2, u3⟩, t1, t2, hs1, hs2, r2, ex, hbk, o2, d1⟩ := two_ok h5 hcl (by rw [hlen g g2]; exact hg) (hcs g g1) g2 hh hkc hx.1 hx.2.1 ht.2.2 (by rw [hlen g g2]; exact hB) (rEs_mk rfl (rEs_mk w7 (rEs_mk w8 (rEs_mk rfl rfl)))) (rEs_mk rfl (rEs_mk w7 (rEs_mk w8 rfl)))
    obtain ⟨zs, z1, z2⟩ := back_ok hbk o2 d1 hρ hρl hlc
    obtain ⟨f', len', x1, x2⟩ := write_ex hz' hx ht y2 y3 t1 u2 u3
    refine fin t1 t2 z1 z2 x1 x2 hs2 (write_k hz' hks y2 y3 t1 u2 u3) ?_
    rw [e]
    refine w108 hs1 w1 ?_ w2 w3 w4 k1 k2
    rw [← take_at (h := h1) (by decide), t1, take_at (by decide), w1]
  · rw [if_neg (by omega), if_pos e] at hcs
    obtain ⟨hs, v1, h1, v2, h2, k1, k2, ⟨n1, y1, y2, y3⟩, ⟨n2, u1, u2, u3⟩, t1, t2, hs1, hs2, r2, ex, hbk, o2, d1⟩ := two_ok h5 hcl hg hcs hO hh hkc hx.1 hx.2.1 ht.2.2 hB (rEs_mk rfl rfl) (rEs_mk rfl rfl)
    obtain ⟨zs, z1, z2⟩ := back_ok hbk o2 d1 hρ hρl hlc
    have x1 := erase_ex hz' hx y2 y3 t1 u2 u3
    refine fin t1 t2 z1 z2 x1 (okT_le ht (by decide) ht.1.1) hs2 (erase_k hz' hks y2 y3 t1 u2 u3) ?_
    rw [e]
    exact w180 hs hs1 k1 k2
  · rw [if_neg (by omega), if_neg (by omega), if_pos e] at hcs
    obtain ⟨hs, v1, h1, v2, h2, k1, k2, ⟨n1, y1, y2, y3⟩, ⟨n2, u1, u2, u3⟩, t1, t2, hs1, hs2, r2, ex, hbk, o2, d1⟩ := two_ok h5 hcl hg hcs hO hh hkc hx.1 hx.2.1 ht.2.2 hB (rEs_mk rfl (rEs_mk rfl rfl)) (rEs_mk rfl rfl)
    obtain ⟨x7, x8, hres⟩ := asm_ex hz' hx ht.1 ht.2.1 y2 y3 t1 u2 u3
    have hks2 := asm_k hz' hx ht.1 ht.2.1 hks y2 y3 t1 u2 u3
    obtain ⟨zs, z1, z2⟩ := back_m hbk o2 d1 hs2 hks2 hρ hρl hlc
    refine fin t1 t2 z1 z2 x8 ht hs2 hks2 ?_
    rw [e]
    exact w193 hs1 k1 k2
  · rw [if_neg (by omega), if_neg (by omega), if_neg (by omega), if_pos e] at hcs
    simp only [Bool.and_eq_true, decide_eq_true_eq] at hcs
    obtain ⟨hw, hcs⟩ := hcs
    obtain ⟨L, F, b, w1, w2, w3, w4, w6, w7, w8⟩ := nWin3 hh hw
    have hb : b = x := by
      have := rE_at (ρ := ρ) (id := 8) (x := x) (by decide) h8
      rw [this] at w6
      injection w6 with w6
      injection w6 with w6
      exact w6.symm
    subst hb
    obtain ⟨hs, v1, h1, v2, h2, k1, k2, ⟨n1, y1, y2, y3⟩, ⟨n2, u1, u2, u3⟩, t1, t2, hs1, hs2, r2, ex, hbk, o2, d1⟩ := two_ok h5 hcl hg hcs hO hh hkc hx.1 hx.2.1 ht.2.2 hB (rEs_mk rfl (rEs_mk w7 (rEs_mk rfl rfl))) (rEs_mk rfl (rEs_mk w7 rfl))
    obtain ⟨zs, z1, z2⟩ := back_ok hbk o2 d1 hρ hρl hlc
    obtain ⟨x8, hks2, hres⟩ := sym_ex hz' hx hks y2 y3 t1 u2 u3
    refine fin t1 t2 z1 z2 x8 ht hs2 hks2 ?_
    rw [e]
    have c1 : h1[0]? = some (some (.inl (4, L, .inl F))) := by rw [← take_at (h := h1) (by decide), t1, take_at (by decide), w1]
    rcases hres with ⟨o1, o2, gs, c1', c2⟩ | ⟨s, o1, o2, ⟨gs, c1', c2⟩, q, q1, q2⟩
    · cases o1
      exact (w222 hs1 w1 c1 w2 w3 w4 k1 k2 c1' (get235 hcl c1' c2) rfl).trans (w290a rfl)
    · cases o1
      cases o2
      exact (w222 hs1 w1 c1 w2 w3 w4 k1 k2 c1' (get235 hcl c1' c2) rfl).trans (w290b rfl q1 q2)
end BD
