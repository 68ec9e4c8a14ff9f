/-! CHARACTERS WRITTEN: the reference -/
section WR
variable {c0 : mH} {v5 : Value}
theorem vC_32 {E : Int64} {k : Nat} : vC E k ↔ cE E k = 10 ∨ (¬ cE E k < 32 ∧ ¬ 126 < cE E k) := by
  have e := cE_int E k
  have e10 : cE E k = 10 ↔ (cE E k).toInt = 10 := ⟨fun q => by rw [q]; rfl, fun q => Int32.toInt_inj.mp q⟩
  rw [e10, Int32.lt_iff_toInt_lt, Int32.lt_iff_toInt_lt, e, show (32 : Int32).toInt = 32 from rfl, show (126 : Int32).toInt = 126 from rfl]
  omega
theorem z4_a (h0 : zC0 c0) {d n : Nat} {r : mO × mH} {σ : zS} {E : Int64} {nn : Int32} (hn : nn.toInt ≤ 1000) : ∀ (m i : Nat) (g c : Int32), (i : Int) ≤ nn.toInt → ((g = 1 ∧ allC E i) ∨ (g = 0 ∧ ¬ allC E i)) → zF v5 d n 4 m 27 [(5, .int (Int32.ofNat i)), (4, .int g), (6, .int c), (0, .ref 183), (1, .long E), (3, .int nn)] [] (zH c0 σ) = some r → ∃ m' k g c, ((g = 1 ∧ allC E nn.toInt.toNat) ∨ (g = 0 ∧ ¬ allC E nn.toInt.toNat)) ∧ zF v5 d n 4 m' 84 [(5, .int k), (4, .int g), (6, .int c), (0, .ref 183), (1, .long E), (3, .int nn)] [] (zH c0 σ) = some r := by
  intro m
  induction m using Nat.strongRecOn with
  | ind m ih =>
    intro i g c hi hg hx
    have hI : (Int32.ofNat i).toInt = i := zOfI (by omega)
    have lt : mCnd .ge (Int32.ofNat i) nn = false → (i : Int) < nn.toInt := fun h1 => by
      have h1 := Int32.lt_iff_toInt_lt.mp (cGeF h1)
      rw [hI] at h1
      exact h1
    have yes : g = 1 ∧ allC E i → vC E i → ((1 : Int32) = 1 ∧ allC E (i + 1)) ∨ ((1 : Int32) = 0 ∧ ¬ allC E (i + 1)) := fun a b => .inl ⟨rfl, a.2, b⟩
    have no1 : ¬ vC E i → ((0 : Int32) = 1 ∧ allC E (i + 1)) ∨ ((0 : Int32) = 0 ∧ ¬ allC E (i + 1)) := fun b => .inr ⟨rfl, fun q => b q.2⟩
    have no0 : g = 0 → ((0 : Int32) = 1 ∧ allC E (i + 1)) ∨ ((0 : Int32) = 0 ∧ ¬ allC E (i + 1)) := fun b => .inr ⟨rfl, fun q => by
      rcases hg with ⟨g1, g2⟩ | ⟨g1, g2⟩
      · rw [b] at g1
        exact absurd g1 (by decide)
      · exact g2 q.1⟩
    have on : ¬ g = 0 → g = 1 ∧ allC E i := fun b => by
      rcases hg with h | h
      · exact h
      · exact absurd h.1 b
    replace hx := zTr (C := nC4) (tb := [(36, sp36)]) h0 rfl rfl ⟨z36 h0, trivial⟩ (fun pc => pc.beq 27 || pc.beq 84) 60 hx
    rcases hx with ⟨h1, m', hm, hx⟩ | ⟨h1, ⟨h2, m', hm, hx⟩ | ⟨h2, ⟨h3, m', hm, hx⟩ | ⟨h3, _, _, h4, hx⟩⟩⟩
    · have h1 : ¬ (i : Int) < nn.toInt := fun h' => cGeT h1 (Int32.lt_iff_toInt_lt.mpr (by rw [hI]; exact h'))
      have e : nn.toInt.toNat = i := by omega
      rw [e]
      exact ⟨m', _, g, c, hg, hx⟩
    · have hx : zF v5 d n 4 m' 27 [(5, .int (Int32.ofNat i + 1)), (4, .int 0), (6, .int (cE E i)), (0, .ref 183), (1, .long E), (3, .int nn)] [] (zH c0 σ) = some r := hx
      rw [← zOfS] at hx
      have := lt h1
      exact ih m' (by omega) (i + 1) 0 _ (by omega) (no0 (cEqT h2)) hx
    · have hx : zF v5 d n 4 m' 27 [(5, .int (Int32.ofNat i + 1)), (4, .int 1), (6, .int (cE E i)), (0, .ref 183), (1, .long E), (3, .int nn)] [] (zH c0 σ) = some r := hx
      rw [← zOfS] at hx
      have := lt h1
      exact ih m' (by omega) (i + 1) 1 _ (by omega) (yes (on (cEqF h2)) (vC_32.2 (.inl (cEqT h3)))) hx
    · rcases h4 with ⟨h5, rfl, rfl⟩ | ⟨h5, rfl, rfl⟩
      · rcases hx with ⟨h6, hx⟩ | ⟨h6, m', hm, hx⟩
        · exact absurd (cEqT h6) (by decide)
        · have hx : zF v5 d n 4 m' 27 [(5, .int (Int32.ofNat i + 1)), (4, .int 1), (6, .int (cE E i)), (0, .ref 183), (1, .long E), (3, .int nn)] [] (zH c0 σ) = some r := hx
          rw [← zOfS] at hx
          have := lt h1
          exact ih m' (by omega) (i + 1) 1 _ (by omega) (yes (on (cEqF h2)) (vC_32.2 (.inr h5))) hx
      · rcases hx with ⟨h6, m', hm, hx⟩ | ⟨h6, hx⟩
        · have hx : zF v5 d n 4 m' 27 [(5, .int (Int32.ofNat i + 1)), (4, .int 0), (6, .int (cE E i)), (0, .ref 183), (1, .long E), (3, .int nn)] [] (zH c0 σ) = some r := hx
          rw [← zOfS] at hx
          have := lt h1
          exact ih m' (by omega) (i + 1) 0 _ (by omega) (no1 (fun q => by
            rcases vC_32.1 q with q | q
            · exact cEqF h3 q
            · exact h5 q)) hx
        · exact absurd rfl (cEqF h6)
abbrev yApp (σ : zS) (E : Int64) (n : Nat) : zS := zA σ 32 (apW (yT σ) (σ.1 25 18) E n)
theorem z4_b (h0 : zC0 c0) {d n : Nat} {r : mO × mH} {σ : zS} {E : Int64} {nn : Int32} (hn : nn.toInt ≤ 1000) {g c : Int32} : ∀ (m i : Nat), (i : Int) ≤ nn.toInt → zF v5 d n 4 m 116 [(5, .int (Int32.ofNat i)), (4, .int g), (6, .int c), (0, .ref 183), (1, .long E), (3, .int nn)] [] (zH c0 (yApp σ E i)) = some r → r = zOut c0 (.inl (some (.int (σ.1 25 18 + nn)))) (zI (yApp σ E nn.toInt.toNat) 25 18 (σ.1 25 18 + nn)) := by
  intro m
  induction m using Nat.strongRecOn with
  | ind m ih =>
    intro i hi hx
    have hI : (Int32.ofNat i).toInt = i := zOfI (by omega)
    replace hx := zTr (C := nC4) (tb := [(36, sp36)]) h0 rfl rfl ⟨z36 h0, trivial⟩ (fun pc => pc.beq 116) 60 hx
    rcases hx with ⟨h1, hx⟩ | ⟨h1, h2, m', hm, hx⟩
    · have h1 : ¬ (i : Int) < nn.toInt := fun h' => cGeT h1 (Int32.lt_iff_toInt_lt.mpr (by rw [hI]; exact h'))
      have e : nn.toInt.toNat = i := by omega
      rw [e]
      exact hx
    · have h1 := Int32.lt_iff_toInt_lt.mp (cGeF h1)
      rw [hI] at h1
      have hx : zF v5 d n 4 m' 116 [(5, .int (Int32.ofNat i + 1)), (4, .int g), (6, .int c), (0, .ref 183), (1, .long E), (3, .int nn)] [] (zH c0 (zA (yApp σ E i) 32 (upd (apW (yT σ) (σ.1 25 18) E i) (σ.1 25 18 + Int32.ofNat i).toNatClampNeg (cE E i)))) = some r := hx
      rw [zA_zA, ← zOfS] at hx
      exact ih m' (by omega) (i + 1) (by omega) hx
abbrev sp4 (as : List Value) (σ : zS) : Option zCs := match as with
  | [.ref 183, .long E, .int nn] => some (fun o σ' => (¬ wrOk E nn ∧ zR (zI σ 25 0 1) 0 o σ') ∨ (wrOk E nn ∧ 240 < σ.1 25 18 + nn ∧ zR (zI σ 25 0 2) 0 o σ') ∨ (wrOk E nn ∧ ¬ 240 < σ.1 25 18 + nn ∧ zR (zI (yApp (zI σ 25 0 0) E nn.toInt.toNat) 25 18 (σ.1 25 18 + nn)) (σ.1 25 18 + nn) o σ'))
  | _ => none
theorem z4 (h0 : zC0 c0) : zSp c0 v5 4 sp4 := by
  intro d n as σ cs r hs hx
  unfold sp4 at hs
  split at hs
  · rename_i E nn
    cases hs
    obtain ⟨d', hx⟩ := zGo hx
    replace hx := zTr (C := nC4) (tb := [(36, sp36), (37, sp37)]) h0 rfl rfl ⟨z36 h0, z37 h0, trivial⟩ (fun pc => pc.beq 27) 60 hx
    obtain ⟨_, _, h1, hx⟩ := hx
    have one : nn < 1 ↔ nn.toInt < 1 := Int32.lt_iff_toInt_lt
    have eig : 8 < nn ↔ 8 < nn.toInt := Int32.lt_iff_toInt_lt
    rcases h1 with ⟨h2, rfl, rfl⟩ | ⟨h2, rfl, rfl⟩
    · rcases hx with ⟨h3, m1, hm, hx⟩ | ⟨h3, hx⟩
      · have k1 : 1 ≤ nn.toInt ∧ nn.toInt ≤ 8 := by
          have h2' : ¬ nn < 1 ∧ ¬ 8 < nn := h2
          rw [one, eig] at h2'
          omega
        have hx : zF v5 d' n 4 m1 27 [(5, .int (Int32.ofNat 0)), (4, .int 1), (0, .ref 183), (1, .long E), (3, .int nn)] [] (zH c0 (zI σ 25 0 0)) = some r := hx
        have hx := zF_lv (b := [(5, .int (Int32.ofNat 0)), (4, .int 1), (6, .int 0), (0, .ref 183), (1, .long E), (3, .int nn)]) (fun q hq => by
          simp only [List.mem_cons, List.not_mem_nil, or_false] at hq
          rcases hq with rfl | rfl | rfl | rfl | rfl <;> rfl) hx
        obtain ⟨m2, k, g, c, hg, hx⟩ := z4_a h0 (by omega) m1 0 1 0 (by omega) (.inl ⟨rfl, trivial⟩) hx
        replace hx := zTr (C := nC4) (tb := [(36, sp36), (37, sp37)]) h0 rfl rfl ⟨z36 h0, z37 h0, trivial⟩ (fun pc => pc.beq 116) 60 hx
        rcases hx with ⟨h4, ⟨h5, m3, hm3, hx⟩ | ⟨h5, hx⟩⟩ | ⟨h4, hx⟩
        · have hok : wrOk E nn := by
            refine ⟨k1, ?_⟩
            rcases hg with q | q
            · exact q.2
            · exact absurd q.1 (cNeT h4)
          have hx : zF v5 d' n 4 m3 116 [(5, .int (Int32.ofNat 0)), (4, .int g), (6, .int c), (0, .ref 183), (1, .long E), (3, .int nn)] [] (zH c0 (zI σ 25 0 0)) = some r := hx
          have e0 : yApp (zI σ 25 0 0) E 0 = zI σ 25 0 0 := zA_self _ 32
          rw [← e0] at hx
          exact ⟨_, _, .inr (.inr ⟨hok, cLeT h5, rfl, rfl⟩), z4_b h0 (by omega) m3 0 (by omega) hx⟩
        · have hok : wrOk E nn := by
            refine ⟨k1, ?_⟩
            rcases hg with q | q
            · exact q.2
            · exact absurd q.1 (cNeT h4)
          obtain ⟨_, _, ⟨rfl, rfl⟩, hx⟩ := hx
          rw [zI_zI] at hx
          exact ⟨_, _, .inr (.inl ⟨hok, cLeF h5, rfl, rfl⟩), hx⟩
        · obtain ⟨_, _, ⟨rfl, rfl⟩, hx⟩ := hx
          rw [zI_zI] at hx
          refine ⟨_, _, .inl ⟨fun q => ?_, rfl, rfl⟩, hx⟩
          rcases hg with w | w
          · rw [w.1] at h4
            exact absurd (cNeF h4) (by decide)
          · exact w.2 q.2
      · exact absurd (cNeF h3) (by decide)
    · rcases hx with ⟨h3, hx⟩ | ⟨h3, hx⟩
      · exact absurd rfl (cNeT h3)
      · obtain ⟨_, _, ⟨rfl, rfl⟩, hx⟩ := hx
        rw [zI_zI] at hx
        refine ⟨_, _, .inl ⟨fun q => h2 ?_, rfl, rfl⟩, hx⟩
        show ¬ nn < 1 ∧ ¬ 8 < nn
        rw [one, eig]
        omega
  · cases hs
end WR
