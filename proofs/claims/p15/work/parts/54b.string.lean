/-! STRINGS THAT ARE PATTERNS -/
/-- a string's bytes -/
def zKs (s : Nat) : Nat := if s = 53 then 50 else (s - 55) / 2
def zSb (s : Nat) : List Int32 := nBy (zKs s)
def zCh (s : Nat) (i : Int32) : Int32 := (((zSb s).getD i.toNatClampNeg 0 &&& 255).toUInt32 % 65536).toInt32
theorem zS_cases {s : Nat} (h : zIsS s) : s = 53 ∨ ∃ k, (k = 0 ∨ k = 1 ∨ k = 2 ∨ k = 3 ∨ k = 4 ∨ k = 5 ∨ k = 6 ∨ k = 7 ∨ k = 8 ∨ k = 9 ∨ k = 10 ∨ k = 11 ∨ k = 12 ∨ k = 13 ∨ k = 14 ∨ k = 15 ∨ k = 16 ∨ k = 17 ∨ k = 18 ∨ k = 19 ∨ k = 20 ∨ k = 21 ∨ k = 22 ∨ k = 23 ∨ k = 24 ∨ k = 25 ∨ k = 26 ∨ k = 27 ∨ k = 28 ∨ k = 29 ∨ k = 30 ∨ k = 31 ∨ k = 32 ∨ k = 33 ∨ k = 34 ∨ k = 35 ∨ k = 36 ∨ k = 37 ∨ k = 38 ∨ k = 39 ∨ k = 40 ∨ k = 41 ∨ k = 42 ∨ k = 43 ∨ k = 44 ∨ k = 45 ∨ k = 46 ∨ k = 47 ∨ k = 48 ∨ k = 49) ∧ s = 55 + 2 * k := by
  rcases h with h | ⟨h1, h2, h3⟩
  · exact Or.inl h
  · exact Or.inr ⟨(s - 55) / 2, by omega, by omega⟩
abbrev sp217 (as : List Value) (σ : zS) : Option zCs := match as with
  | [.ref s] => some (fun o σ' => zIsS s ∧ zR σ 0 o σ')
  | _ => none
abbrev sp218 (as : List Value) (σ : zS) : Option zCs := match as with
  | [.ref s] => some (fun o σ' => zIsS s ∧ zR σ 1 o σ')
  | _ => none
abbrev sp183 (as : List Value) (σ : zS) : Option zCs := match as with
  | [.ref s] => some (fun o σ' => zIsS s ∧ zR σ (Int32.ofNat (zSb s).length) o σ')
  | _ => none
abbrev sp232 (as : List Value) (σ : zS) : Option zCs := match as with
  | [.int i, .int n, _] => some (fun o σ' => (¬ i < 0 ∧ i < n) ∧ zR σ i o σ')
  | _ => none
abbrev sp226 (as : List Value) (σ : zS) : Option zCs := match as with
  | [.int i, .int n] => some (fun o σ' => (¬ i < 0 ∧ i < n) ∧ zN σ o σ')
  | _ => none
section SG
variable {c0 : mH} {v5 : Value}
theorem z217 (h0 : zC0 c0) : zSp c0 v5 217 sp217 := by
  intro d n as σ cs r hs hx
  unfold sp217 at hs
  split at hs
  · cases hs
    obtain ⟨d', hx⟩ := zGo hx
    replace hx := zTr (C := nC217) (tb := []) h0 rfl rfl trivial (fun _ => false) 40 hx
    rcases hx with ⟨h, -⟩ | ⟨-, h1, hx⟩
    · exact absurd (cEqT h) (by decide)
    · exact ⟨_, _, ⟨h1, rfl, rfl⟩, hx⟩
  · cases hs
theorem z218 (h0 : zC0 c0) : zSp c0 v5 218 sp218 := by
  intro d n as σ cs r hs hx
  unfold sp218 at hs
  split at hs
  · cases hs
    obtain ⟨d', hx⟩ := zGo hx
    replace hx := zTr (C := nC218) (tb := []) h0 rfl rfl trivial (fun _ => false) 40 hx
    rcases hx with ⟨h, -⟩ | ⟨-, h1, ⟨h, -⟩ | ⟨-, hx⟩⟩
    · exact absurd (cEqT h) (by decide)
    · exact absurd rfl (cNeT h)
    · exact ⟨_, _, ⟨h1, rfl, rfl⟩, hx⟩
  · cases hs
theorem z183 (h0 : zC0 c0) : zSp c0 v5 183 sp183 := by
  intro d n as σ cs r hs hx
  unfold sp183 at hs
  split at hs
  · rename_i s
    cases hs
    obtain ⟨d', hx⟩ := zGo hx
    have hS : zIsS s := (zTr (C := nC183) (tb := []) h0 rfl rfl trivial (fun _ => false) 2 hx).1
    rcases zS_cases hS with rfl | ⟨k, hk, rfl⟩
    · obtain ⟨-, _, _, ⟨-, rfl, rfl⟩, hx⟩ := zTr (C := nC183) (tb := [(217, sp217)]) h0 rfl rfl ⟨z217 h0, trivial⟩ (fun _ => false) 40 hx
      exact ⟨_, _, ⟨hS, rfl, rfl⟩, hx⟩
    · rcases hk with rfl | rfl | rfl | rfl | rfl | rfl | rfl | rfl | rfl | rfl | rfl | rfl | rfl | rfl | rfl | rfl | rfl | rfl | rfl | rfl | rfl | rfl | rfl | rfl | rfl | rfl | rfl | rfl | rfl | rfl | rfl | rfl | rfl | rfl | rfl | rfl | rfl | rfl | rfl | rfl | rfl | rfl | rfl | rfl | rfl | rfl | rfl | rfl | rfl | rfl
      all_goals
        obtain ⟨-, _, _, ⟨-, rfl, rfl⟩, hx⟩ := zTr (C := nC183) (tb := [(217, sp217)]) h0 rfl rfl ⟨z217 h0, trivial⟩ (fun _ => false) 40 hx
        exact ⟨_, _, ⟨hS, rfl, rfl⟩, hx⟩
  · cases hs
theorem z232_9 (h0 : zC0 c0) {d n m : Nat} {r : mO × mH} {σ : zS} {i k : Int32} {v : Value} (hx : zF v5 d n 232 m 9 [(0, .int i), (1, .int k), (2, v)] [] (zH c0 σ) = some r) : False := by
  have stuck : ∀ (w : Value), mKr (some w) = none → zF v5 d n 232 m 9 [(0, .int i), (1, .int k), (2, w)] [] (zH c0 σ) = some r → False := by
    intro w hw hx
    cases m with
    | zero => cases hx
    | succ m =>
      have hC : nCodw v5 232 = nC232 := rfl
      rcases evF_inv (mP'_ok hC 9 _ rfl) hx with ⟨v, h1, _⟩ | ⟨_, x, h2, _⟩ | ⟨_, _, ce, as, rest, o, h', h3, _⟩ | ⟨_, _, _, q, h4, _⟩
      · cases h1
      · cases h2
      · simp [mCl, mIv] at h3
      · have : mB (.aload_n 2) [(0, .int i), (1, .int k), (2, w)] = none := hw
        simp [mNx, mA, mD, mJ, mG, mP, mN, mIv, this] at h4
  cases v with
  | ref a =>
    obtain ⟨m', hm, hx⟩ := zTr (C := nC232) (tb := []) h0 rfl rfl trivial (fun _ => false) 40 hx
    cases m' with
    | zero => cases hx
    | succ m' =>
      have hx : zF v5 d n 232 (m' + 1) 12 [(0, .int i), (1, .int k), (2, .ref a)] [.int k, .int i, .ref a] (zH c0 σ) = some r := hx
      unfold zF evF at hx
      have : mP' (nCodw v5) 232 12 = none := rfl
      rw [this] at hx
      cases hx
  | int x => exact stuck _ rfl hx
  | long x => exact stuck _ rfl hx
  | float x => exact stuck _ rfl hx
  | double x => exact stuck _ rfl hx
  | null => exact stuck _ rfl hx
  | retAddr x => exact stuck _ rfl hx
theorem z232 (h0 : zC0 c0) : zSp c0 v5 232 sp232 := by
  intro d n as σ cs r hs hx
  unfold sp232 at hs
  split at hs
  · cases hs
    obtain ⟨d', hx⟩ := zGo hx
    replace hx := zTr (C := nC232) (tb := []) h0 rfl rfl trivial (fun pc => pc.beq 9) 40 hx
    rcases hx with ⟨h1, m', hm, hx⟩ | ⟨h1, ⟨h2, hx⟩ | ⟨h2, m', hm, hx⟩⟩
    · exact (z232_9 h0 hx).elim
    · exact ⟨_, _, ⟨⟨cLtF h1, cLtT h2⟩, rfl, rfl⟩, hx⟩
    · exact (z232_9 h0 hx).elim
  · cases hs
theorem z226 (h0 : zC0 c0) : zSp c0 v5 226 sp226 := by
  intro d n as σ cs r hs hx
  unfold sp226 at hs
  split at hs
  · cases hs
    obtain ⟨d', hx⟩ := zGo hx
    replace hx := zTr (C := nC226w v5) (tb := [(232, sp232)]) h0 rfl rfl ⟨z232 h0, trivial⟩ (fun _ => false) 40 hx
    obtain ⟨_, _, ⟨h1, rfl, rfl⟩, hx⟩ := hx
    exact ⟨_, _, ⟨h1, rfl, rfl⟩, hx⟩
  · cases hs
end SG
