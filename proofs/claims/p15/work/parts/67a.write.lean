/-! CHARACTERS WRITTEN: the class -/
abbrev bE (E : Int64) (k : Nat) : Int64 := (E >>> (((Int8.ofInt 8).toInt32 * Int32.ofNat k).toInt64 &&& 63)) &&& 255
def cE (E : Int64) (k : Nat) : Int32 := (bE E k).toInt32
def apW (T : Nat → Int32) (p : Int32) (E : Int64) : Nat → Nat → Int32
  | 0 => T
  | k + 1 => upd (apW T p E k) (p + Int32.ofNat k).toNatClampNeg (cE E k)
abbrev vC (E : Int64) (k : Nat) : Prop := (bE E k).toInt = 10 ∨ (32 ≤ (bE E k).toInt ∧ (bE E k).toInt ≤ 126)
def allC (E : Int64) : Nat → Prop
  | 0 => True
  | k + 1 => allC E k ∧ vC E k
theorem cE_int (E : Int64) (k : Nat) : (cE E k).toInt = (bE E k).toInt := by
  have : 0 ≤ (bE E k).toInt ∧ (bE E k).toInt ≤ 255 := cAnd (E >>> (((Int8.ofInt 8).toInt32 * Int32.ofNat k).toInt64 &&& 63))
  unfold cE
  rw [Int64.toInt_toInt32, bm32 (by omega) (by omega)]
theorem cE_uN (E : Int64) (k : Nat) : uN (cE E k) < 256 := by
  have h1 : 0 ≤ (bE E k).toInt ∧ (bE E k).toInt ≤ 255 := cAnd (E >>> (((Int8.ofInt 8).toInt32 * Int32.ofNat k).toInt64 &&& 63))
  have h2 := cE_int E k
  have h3 := (uN_nn (x := cE E k) (by omega)).2
  omega
theorem allC_le {E : Int64} : ∀ {n k : Nat}, allC E n → k < n → vC E k
  | 0, _, _, h => absurd h (Nat.not_lt_zero _)
  | n + 1, k, h, hk => by
    by_cases e : k = n
    · rw [e]
      exact h.2
    · exact allC_le h.1 (by omega)
section WC
variable {c0 : mH} {v5 : Value}
theorem z56_l (h0 : zC0 c0) {d n : Nat} {r : mO × mH} {σ : zS} {E : Int64} {nn : Int32} (hn : nn.toInt ≤ 1000) : ∀ (m i : Nat) (x : Int64), (i : Int) ≤ nn.toInt → allC E i → zF v5 d n 56 m 2 [(3, .int (Int32.ofNat i)), (4, .long x), (0, .long E), (2, .int nn)] [] (zH c0 σ) = some r → (allC E nn.toInt.toNat ∧ r = zOut c0 (.inl (some (.int 1))) σ) ∨ (¬ allC E nn.toInt.toNat ∧ r = zOut c0 (.inl (some (.int 0))) σ) := by
  intro m
  induction m using Nat.strongRecOn with
  | ind m ih =>
    intro i x hi hall hx
    have hI : (Int32.ofNat i).toInt = i := zOfI (by omega)
    have go : ∀ m' (x : Int64), m' < m → vC E i → (i : Int) < nn.toInt → zF v5 d n 56 m' 2 [(3, .int (Int32.ofNat i + 1)), (4, .long x), (0, .long E), (2, .int nn)] [] (zH c0 σ) = some r → (allC E nn.toInt.toNat ∧ r = zOut c0 (.inl (some (.int 1))) σ) ∨ (¬ allC E nn.toInt.toNat ∧ r = zOut c0 (.inl (some (.int 0))) σ) := by
      intro m' x hm hv hlt hx
      rw [← zOfS] at hx
      exact ih m' hm (i + 1) x (by omega) ⟨hall, hv⟩ hx
    have bad : (i : Int) < nn.toInt → ¬ vC E i → ¬ allC E nn.toInt.toNat := fun hlt hv ha => hv (allC_le ha (by omega))
    replace hx := zTr (C := nC56) (tb := []) h0 rfl rfl trivial (fun pc => pc.beq 2) 60 hx
    rcases hx with ⟨h1, hx⟩ | ⟨h1, ⟨h2, m', hm, hx⟩ | ⟨h2, ⟨h3, hx⟩ | ⟨h3, ⟨h4, m', hm, hx⟩ | ⟨h4, hx⟩⟩⟩⟩
    · left
      have h1 : ¬ (i : Int) < nn.toInt := fun h' => cGeT h1 (Int32.lt_iff_toInt_lt.mpr (by rw [hI]; exact h'))
      have e : nn.toInt.toNat = i := by omega
      rw [e]
      exact ⟨hall, hx⟩
    · have h1 := Int32.lt_iff_toInt_lt.mp (cGeF h1)
      rw [hI] at h1
      rw [cEq, decide_eq_true_eq] at h2
      exact go m' _ (by omega) (.inl h2) h1 hx
    · right
      have h1 := Int32.lt_iff_toInt_lt.mp (cGeF h1)
      rw [hI] at h1
      rw [cEq, decide_eq_false_iff_not] at h2
      rw [cLt, decide_eq_true_eq] at h3
      refine ⟨bad h1 (fun q => ?_), hx⟩
      have h2' : ¬ (bE E i).toInt = 10 := h2
      have h3' : (bE E i).toInt < 32 := h3
      rcases q with q | q
      · exact h2' q
      · omega
    · have h1 := Int32.lt_iff_toInt_lt.mp (cGeF h1)
      rw [hI] at h1
      rw [cLt, decide_eq_false_iff_not] at h3
      rw [cLe, decide_eq_true_eq] at h4
      have h3' : ¬ (bE E i).toInt < 32 := h3
      have h4' : (bE E i).toInt ≤ 126 := h4
      exact go m' _ (by omega) (.inr ⟨by omega, h4'⟩) h1 hx
    · right
      have h1 := Int32.lt_iff_toInt_lt.mp (cGeF h1)
      rw [hI] at h1
      rw [cEq, decide_eq_false_iff_not] at h2
      rw [cLe, decide_eq_false_iff_not] at h4
      refine ⟨bad h1 (fun q => ?_), hx⟩
      have h2' : ¬ (bE E i).toInt = 10 := h2
      have h4' : ¬ (bE E i).toInt ≤ 126 := h4
      rcases q with q | q
      · exact h2' q
      · omega
theorem z56_w (h0 : zC0 c0) {d n : Nat} {r : mO × mH} {σ : zS} {E : Int64} {nn : Int32} : ∀ (m : Nat) (i : Int32) (x : Int64), zF v5 d n 56 m 2 [(3, .int i), (4, .long x), (0, .long E), (2, .int nn)] [] (zH c0 σ) = some r → ∃ b, r = zOut c0 (.inl (some (.int b))) σ := by
  intro m
  induction m using Nat.strongRecOn with
  | ind m ih =>
    intro i x hx
    replace hx := zTr (C := nC56) (tb := []) h0 rfl rfl trivial (fun pc => pc.beq 2) 60 hx
    rcases hx with ⟨h1, hx⟩ | ⟨h1, ⟨h2, m', hm, hx⟩ | ⟨h2, ⟨h3, hx⟩ | ⟨h3, ⟨h4, m', hm, hx⟩ | ⟨h4, hx⟩⟩⟩⟩
    · exact ⟨_, hx⟩
    · exact ih m' (by omega) _ _ hx
    · exact ⟨_, hx⟩
    · exact ih m' (by omega) _ _ hx
    · exact ⟨_, hx⟩
abbrev sp56 (as : List Value) (σ : zS) : Option zCs := match as with
  | [.long E, .int nn] => some (fun o σ' => ∃ b, zR σ b o σ' ∧ (0 ≤ nn.toInt ∧ nn.toInt ≤ 1000 → (allC E nn.toInt.toNat ∧ b = 1) ∨ (¬ allC E nn.toInt.toNat ∧ b = 0)))
  | _ => none
theorem z56 (h0 : zC0 c0) : zSp c0 v5 56 sp56 := by
  intro d n as σ cs r hs hx
  unfold sp56 at hs
  split at hs
  · rename_i E nn
    cases hs
    obtain ⟨d', hx⟩ := zGo hx
    replace hx := zTr (C := nC56) (tb := []) h0 rfl rfl trivial (fun pc => pc.beq 2) 60 hx
    obtain ⟨m', hm, hx⟩ := hx
    have hx : zF v5 d' n 56 m' 2 [(3, .int (Int32.ofNat 0)), (0, .long E), (2, .int nn)] [] (zH c0 σ) = some r := hx
    have hx := zF_lv (b := [(3, .int (Int32.ofNat 0)), (4, .long 0), (0, .long E), (2, .int nn)]) (fun q hq => by
      simp only [List.mem_cons, List.not_mem_nil, or_false] at hq
      rcases hq with rfl | rfl | rfl <;> rfl) hx
    by_cases hr : 0 ≤ nn.toInt ∧ nn.toInt ≤ 1000
    · rcases z56_l h0 hr.2 m' 0 0 hr.1 trivial hx with ⟨a, b⟩ | ⟨a, b⟩
      · exact ⟨_, _, ⟨1, ⟨rfl, rfl⟩, fun _ => .inl ⟨a, rfl⟩⟩, b⟩
      · exact ⟨_, _, ⟨0, ⟨rfl, rfl⟩, fun _ => .inr ⟨a, rfl⟩⟩, b⟩
    · obtain ⟨b, hb⟩ := z56_w h0 m' _ _ hx
      exact ⟨_, _, ⟨b, ⟨rfl, rfl⟩, fun q => absurd q hr⟩, hb⟩
  · cases hs
/-- the text behind n characters more -/
abbrev zApp (σ : zS) (E : Int64) (n : Nat) : zS := zA σ 10 (apW (xT σ) (σ.1 9 1) E n)
theorem z57_l (h0 : zC0 c0) {d n : Nat} {r : mO × mH} {σ : zS} {E : Int64} {nn : Int32} (hn : nn.toInt ≤ 1000) : ∀ (m i : Nat), (i : Int) ≤ nn.toInt → zF v5 d n 57 m 3 [(4, .int (Int32.ofNat i)), (0, .ref 167), (1, .long E), (3, .int nn)] [] (zH c0 (zApp σ E i)) = some r → r = zOut c0 (.inl none) (zI (zApp σ E nn.toInt.toNat) 9 1 (σ.1 9 1 + nn)) := by
  intro m
  induction m using Nat.strongRecOn with
  | ind m ih =>
    intro i hi hx
    have hI : (Int32.ofNat i).toInt = i := zOfI (by omega)
    replace hx := zTr (C := nC57) (tb := []) h0 rfl rfl trivial (fun pc => pc.beq 3) 60 hx
    rcases hx with ⟨h1, hx⟩ | ⟨h1, h2, m', hm, hx⟩
    · have h1 : ¬ (i : Int) < nn.toInt := fun h' => cGeT h1 (Int32.lt_iff_toInt_lt.mpr (by rw [hI]; exact h'))
      have e : nn.toInt.toNat = i := by omega
      rw [e]
      exact hx
    · have h1 := Int32.lt_iff_toInt_lt.mp (cGeF h1)
      rw [hI] at h1
      have hx : zF v5 d n 57 m' 3 [(4, .int (Int32.ofNat i + 1)), (0, .ref 167), (1, .long E), (3, .int nn)] [] (zH c0 (zA (zApp σ E i) 10 (upd (apW (xT σ) (σ.1 9 1) E i) (σ.1 9 1 + Int32.ofNat i).toNatClampNeg (((((cE E i).toUInt32 % 65536).toInt32).toUInt32 % 65536).toInt32)))) = some r := hx
      have e16 := c16 (c := cE E i) (by have := cE_uN E i; omega)
      rw [zA_zA, e16, e16, ← zOfS] at hx
      exact ih m' (by omega) (i + 1) (by omega) hx
theorem z57_w (h0 : zC0 c0) {d n : Nat} {r : mO × mH} {E : Int64} {nn : Int32} : ∀ (m : Nat) (i : Int32) (σ : zS), zF v5 d n 57 m 3 [(4, .int i), (0, .ref 167), (1, .long E), (3, .int nn)] [] (zH c0 σ) = some r → ∃ σ', r = zOut c0 (.inl none) σ' := by
  intro m
  induction m using Nat.strongRecOn with
  | ind m ih =>
    intro i σ hx
    replace hx := zTr (C := nC57) (tb := []) h0 rfl rfl trivial (fun pc => pc.beq 3) 60 hx
    rcases hx with ⟨h1, hx⟩ | ⟨h1, h2, m', hm, hx⟩
    · exact ⟨_, hx⟩
    · exact ih m' (by omega) _ _ hx
abbrev sp57 (as : List Value) (σ : zS) : Option zCs := match as with
  | [.ref 167, .long E, .int nn] => some (fun o σ' => o = .inl none ∧ (0 ≤ nn.toInt ∧ nn.toInt ≤ 1000 → zI (zApp σ E nn.toInt.toNat) 9 1 (σ.1 9 1 + nn) = σ'))
  | _ => none
theorem z57 (h0 : zC0 c0) : zSp c0 v5 57 sp57 := by
  intro d n as σ cs r hs hx
  unfold sp57 at hs
  split at hs
  · rename_i E nn
    cases hs
    obtain ⟨d', hx⟩ := zGo hx
    replace hx := zTr (C := nC57) (tb := []) h0 rfl rfl trivial (fun pc => pc.beq 3) 60 hx
    obtain ⟨m', hm, hx⟩ := hx
    have hx : zF v5 d' n 57 m' 3 [(4, .int (Int32.ofNat 0)), (0, .ref 167), (1, .long E), (3, .int nn)] [] (zH c0 σ) = some r := hx
    by_cases hr : 0 ≤ nn.toInt ∧ nn.toInt ≤ 1000
    · have e0 : zApp σ E 0 = σ := zA_self σ 10
      have hx' : zF v5 d' n 57 m' 3 [(4, .int (Int32.ofNat 0)), (0, .ref 167), (1, .long E), (3, .int nn)] [] (zH c0 (zApp σ E 0)) = some r := by
        rw [e0]
        exact hx
      exact ⟨_, _, ⟨rfl, fun _ => rfl⟩, z57_l h0 hr.2 m' 0 hr.1 hx'⟩
    · obtain ⟨σ', hb⟩ := z57_w h0 m' _ _ hx
      exact ⟨_, _, ⟨rfl, fun q => absurd q hr⟩, hb⟩
  · cases hs
/-- whether n characters may be written -/
abbrev wrOk (E : Int64) (nn : Int32) : Prop := (1 ≤ nn.toInt ∧ nn.toInt ≤ 8) ∧ allC E nn.toInt.toNat
abbrev sp35 (as : List Value) (σ : zS) : Option zCs := match as with
  | [.ref 158, .long E, .int nn] => some (fun o σ' => (¬ wrOk E nn ∧ o = .inr 0 ∧ zX σ 0 = σ') ∨ (wrOk E nn ∧ 240 < σ.1 9 1 + nn ∧ o = .inr 1 ∧ zX σ 1 = σ') ∨ (wrOk E nn ∧ ¬ 240 < σ.1 9 1 + nn ∧ zR (zI (zApp σ E nn.toInt.toNat) 9 1 (σ.1 9 1 + nn)) (σ.1 9 1 + nn) o σ'))
  | _ => none
theorem z35 (h0 : zC0 c0) : zSp c0 v5 35 sp35 := by
  intro d n as σ cs r hs hx
  unfold sp35 at hs
  split at hs
  · rename_i E nn
    cases hs
    obtain ⟨d', hx⟩ := zGo hx
    replace hx := zTr (C := nC35) (tb := [(56, sp56), (57, sp57)]) h0 rfl rfl ⟨z56 h0, z57 h0, trivial⟩ (fun _ => false) 60 hx
    have one : nn < 1 ↔ nn.toInt < 1 := Int32.lt_iff_toInt_lt
    have eig : 8 < nn ↔ 8 < nn.toInt := Int32.lt_iff_toInt_lt
    rcases hx with ⟨h1, hx⟩ | ⟨h1, ⟨h2, hx⟩ | ⟨h2, _, _, ⟨b, ⟨rfl, rfl⟩, h3⟩, ⟨h4, hx⟩ | ⟨h4, hx⟩⟩⟩
    · have := one.1 (cLtT h1)
      exact ⟨_, _, .inl ⟨fun q => by omega, rfl, rfl⟩, hx⟩
    · have := eig.1 (cGtT h2)
      exact ⟨_, _, .inl ⟨fun q => by omega, rfl, rfl⟩, hx⟩
    · have k1 : ¬ nn.toInt < 1 := fun q => cLtF h1 (one.2 q)
      have k2 : ¬ 8 < nn.toInt := fun q => cGtF h2 (eig.2 q)
      have hok : wrOk E nn := by
        refine ⟨by omega, ?_⟩
        rcases h3 (by omega) with ⟨q1, q2⟩ | ⟨q1, q2⟩
        · exact q1
        · exact absurd q2 (cNeT h4)
      rcases hx with ⟨h5, hx⟩ | ⟨h5, hx⟩
      · obtain ⟨_, _, ⟨rfl, h6⟩, hx⟩ := hx
        have h6 := h6 (by omega)
        subst h6
        exact ⟨_, _, .inr (.inr ⟨hok, cLeT h5, rfl, rfl⟩), hx⟩
      · exact ⟨_, _, .inr (.inl ⟨hok, cLeF h5, rfl, rfl⟩), hx⟩
    · have k1 : ¬ nn.toInt < 1 := fun q => cLtF h1 (one.2 q)
      have k2 : ¬ 8 < nn.toInt := fun q => cGtF h2 (eig.2 q)
      refine ⟨_, _, .inl ⟨fun q => ?_, rfl, rfl⟩, hx⟩
      rcases h3 (by omega) with ⟨q1, q2⟩ | ⟨q1, q2⟩
      · rw [q2] at h4
        exact absurd (cNeF h4) (by decide)
      · exact q1 q.2
  · cases hs
end WC
