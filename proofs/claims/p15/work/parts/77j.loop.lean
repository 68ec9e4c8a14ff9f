/-! STEPS on both sides: the loops -/
noncomputable def cIt : Nat → zS → zS
  | 0, σ => σ
  | n + 1, σ => if σ.1 7 6 = 0 then cIt n (cTry σ) else σ
noncomputable def yIt : Nat → zS → zS × Nat
  | 0, τ => (τ, 0)
  | n + 1, τ => if τ.1 25 10 = 0 then @ite _ (ySu τ) (Classical.propDecidable _) ((yIt n (yTr τ)).1, (yIt n (yTr τ)).2 + 1) (yTr τ, 0) else (τ, 0)
abbrev sp44' (as : List Value) (σ : zS) : Option zCs := match as with
  | [.ref 183] => some (fun o σ' => (ySu σ ∧ zR (yTr σ) 1 o σ') ∨ (¬ ySu σ ∧ zI σ' 25 10 2 = yTr σ ∧ o = .inl (some (.int 0))))
  | _ => none
section LP
variable {c0 : mH} {v5 : Value}
theorem z44' (h0 : zC0 c0) : zSp c0 v5 44 sp44' := by
  intro d n as σ cs r hs hx
  unfold sp44' at hs
  split at hs
  · cases hs
    obtain ⟨o, σ', hq, hr⟩ := z44 h0 d n _ σ _ r rfl hx
    refine ⟨o, σ', ?_, hr⟩
    unfold yTr
    rcases hq with ⟨a, b1, b2⟩ | ⟨a, b, c1, c2⟩ | ⟨a, b, c, e1, e2⟩ | ⟨a, b, c, e, g1, g2⟩ | ⟨a, b, c, e, g1, g2⟩
    · right
      refine ⟨fun z => a z.1, ?_, b1⟩
      rw [if_pos a, b2]
    · left
      refine ⟨⟨a, .inl b⟩, c1, ?_⟩
      rw [if_neg (fun z => z a), if_pos b]
      exact c2
    · right
      refine ⟨fun z => z.2.elim b (fun z => z.1 c), ?_, e1⟩
      rw [if_neg (fun z => z a), if_neg b, if_pos c, e2]
    · right
      refine ⟨fun z => z.2.elim b (fun z => e z.2), ?_, g1⟩
      rw [if_neg (fun z => z a), if_neg b, if_neg c, if_pos e, g2]
    · left
      refine ⟨⟨a, .inr ⟨c, e⟩⟩, g1, ?_⟩
      rw [if_neg (fun z => z a), if_neg b, if_neg c, if_neg (fun z => z e)]
      exact g2
  · cases hs
abbrev in500 (k : Int32) : Prop := ¬ k < 1 ∧ ¬ 500 < k
theorem in500_i {k : Int32} (h : in500 k) : 1 ≤ k.toInt ∧ k.toInt ≤ 500 := by
  obtain ⟨a, b⟩ := h
  rw [Int32.lt_iff_toInt_lt] at a b
  rw [show (1 : Int32).toInt = 1 from rfl] at a
  rw [show (500 : Int32).toInt = 500 from rfl] at b
  omega
theorem z43 (h0 : zC0 c0) (hb : bS c0) {d n : Nat} {σ : zS} {r : mO × mH} {k : Int32} (hx : zEv v5 d n 43 [.ref 158, .int k] (zH c0 σ) = some r) : (¬ in500 k ∧ r = zOut c0 (.inr 0) (zX σ 0)) ∨ (in500 k ∧ ¬ σ.1 7 6 = 0 ∧ r = zOut c0 (.inr 1) (zX σ 1)) ∨ (in500 k ∧ σ.1 7 6 = 0 ∧ r = zOut c0 (.inl (some (.int ((cIt k.toNatClampNeg σ).1 7 7 - σ.1 7 7)))) (cIt k.toNatClampNeg σ)) := by
  obtain ⟨d', hx⟩ := zGo hx
  have loop : ∀ (b : Int32), in500 k → ∀ (m i : Nat) (ρ : zS), (i : Int) ≤ k.toInt → zF v5 d' n 43 m 52 [(3, .int (Int32.ofNat i)), (2, .int b), (0, .ref 158), (1, .int k)] [] (zH c0 ρ) = some r → r = zOut c0 (.inl (some (.int ((cIt (k.toInt.toNat - i) ρ).1 7 7 - b)))) (cIt (k.toInt.toNat - i) ρ) := by
    intro b hk m
    have hk' := in500_i hk
    induction m using Nat.strongRecOn with
    | ind m ih =>
      intro i ρ hi hx
      have hiI := zOfI (n := i) (by omega)
      replace hx := zTr (C := nC43) (tb := [(69, sp69)]) h0 rfl rfl ⟨z69 h0 hb, trivial⟩ (fun pc => pc.beq 52) 60 hx
      rcases hx with ⟨h1, hx⟩ | ⟨h1, ⟨h2, hx⟩ | ⟨h2, _, _, ⟨rfl, rfl⟩, m', hm, hx⟩⟩
      · have h1 : ¬ Int32.ofNat i < k := cGeT h1
        rw [Int32.lt_iff_toInt_lt, hiI] at h1
        rw [show k.toInt.toNat - i = 0 by omega]
        exact hx
      · have h1 : Int32.ofNat i < k := cGeF h1
        rw [Int32.lt_iff_toInt_lt, hiI] at h1
        have h2 : ¬ ρ.1 7 6 = 0 := cNeT h2
        have e : cIt (k.toInt.toNat - i) ρ = ρ := by
          rw [show k.toInt.toNat - i = (k.toInt.toNat - i - 1) + 1 by omega]
          unfold cIt
          rw [if_neg h2]
        rw [e]
        exact hx
      · have h1 : Int32.ofNat i < k := cGeF h1
        rw [Int32.lt_iff_toInt_lt, hiI] at h1
        have h2 : ρ.1 7 6 = 0 := cNeF h2
        have e : cIt (k.toInt.toNat - i) ρ = cIt (k.toInt.toNat - (i + 1)) (cTry ρ) := by
          rw [show k.toInt.toNat - i = (k.toInt.toNat - (i + 1)) + 1 by omega]
          conv => lhs; unfold cIt
          rw [if_pos h2]
        rw [e]
        refine ih m' (by omega) (i + 1) (cTry ρ) (by omega) ?_
        rw [zOfS]
        exact hx
  replace hx := zTr (C := nC43) (tb := []) h0 rfl rfl trivial (fun pc => pc.beq 52) 60 hx
  have fin : in500 k → ∀ m', σ.1 7 6 = 0 → zF v5 d' n 43 m' 52 [(3, .int (Int32.ofNat 0)), (2, .int (σ.1 7 7)), (0, .ref 158), (1, .int k)] [] (zH c0 σ) = some r → in500 k ∧ σ.1 7 6 = 0 ∧ r = zOut c0 (.inl (some (.int ((cIt k.toNatClampNeg σ).1 7 7 - σ.1 7 7)))) (cIt k.toNatClampNeg σ) := by
    intro hk m' hs hx
    have hk' := in500_i hk
    exact ⟨hk, hs, loop (σ.1 7 7) hk m' 0 σ (by omega) hx⟩
  rcases hx with ⟨h1, hx⟩ | ⟨h1, ⟨h2, ⟨h3, m', hm, hx⟩ | ⟨h3, hx⟩⟩ | ⟨h2, hx⟩⟩
  · exact .inl ⟨fun q => q.1 (cLtT h1), hx⟩
  · exact .inr (.inr (fin ⟨cLtF h1, cLeT h2⟩ m' (cEqT h3) hx))
  · exact .inr (.inl ⟨⟨cLtF h1, cLeT h2⟩, cEqF h3, hx⟩)
  · exact .inl ⟨fun q => q.2 (cLeF h2), hx⟩
theorem z14 (h0 : zC0 c0) {d n : Nat} {τ : zS} {r : mO × mH} {k : Int32} (hx : zEv v5 d n 14 [.ref 183, .int k] (zH c0 τ) = some r) : (¬ in500 k ∧ r = zOut c0 (.inl (some (.int 0))) (qThr τ 1)) ∨ (in500 k ∧ 0 < τ.1 25 10 ∧ r = zOut c0 (.inl (some (.int 0))) (qThr τ 2)) ∨ (in500 k ∧ ¬ 0 < τ.1 25 10 ∧ r = zOut c0 (.inl (some (.int (Int32.ofNat (yIt k.toNatClampNeg (y0 τ)).2)))) (yIt k.toNatClampNeg (y0 τ)).1) := by
  obtain ⟨d', hx⟩ := zGo hx
  have loop : in500 k → ∀ (m i : Nat) (ρ : zS), (i : Int) ≤ k.toInt → zF v5 d' n 14 m 37 [(2, .int (Int32.ofNat i)), (0, .ref 183), (1, .int k)] [] (zH c0 ρ) = some r → r = zOut c0 (.inl (some (.int (Int32.ofNat (i + (yIt (k.toInt.toNat - i) ρ).2))))) (yIt (k.toInt.toNat - i) ρ).1 := by
    intro hk m
    have hk' := in500_i hk
    induction m using Nat.strongRecOn with
    | ind m ih =>
      intro i ρ hi hx
      have hiI := zOfI (n := i) (by omega)
      have stop : ¬ ρ.1 25 10 = 0 → yIt (k.toInt.toNat - i) ρ = (ρ, 0) := by
        intro h2
        cases hn : k.toInt.toNat - i with
        | zero => rfl
        | succ s =>
          unfold yIt
          rw [if_neg h2]
      replace hx := zTr (C := nC14) (tb := [(44, sp44')]) h0 rfl rfl ⟨z44' h0, trivial⟩ (fun pc => pc.beq 37) 60 hx
      rcases hx with ⟨h1, hx⟩ | ⟨h1, ⟨h2, hx⟩ | ⟨h2, _, _, (⟨s, rfl, rfl⟩ | ⟨s, e, rfl⟩), hx⟩⟩
      · have h1 : ¬ Int32.ofNat i < k := cGeT h1
        rw [Int32.lt_iff_toInt_lt, hiI] at h1
        rw [show k.toInt.toNat - i = 0 by omega]
        exact hx
      · rw [stop (cNeT h2)]
        exact hx
      · have h1 : Int32.ofNat i < k := cGeF h1
        rw [Int32.lt_iff_toInt_lt, hiI] at h1
        have h2 : ρ.1 25 10 = 0 := cNeF h2
        rcases hx with ⟨h3, hx⟩ | ⟨h3, m', hm, hx⟩
        · exact absurd (show (1 : Int32) = 0 from cEqT h3) (by decide)
        · have e : yIt (k.toInt.toNat - i) ρ = ((yIt (k.toInt.toNat - (i + 1)) (yTr ρ)).1, (yIt (k.toInt.toNat - (i + 1)) (yTr ρ)).2 + 1) := by
            rw [show k.toInt.toNat - i = (k.toInt.toNat - (i + 1)) + 1 by omega]
            conv => lhs; unfold yIt
            rw [if_pos h2, if_pos s]
          rw [e]
          have := ih m' (by omega) (i + 1) (yTr ρ) (by omega) (by
            rw [zOfS]
            exact hx)
          rw [show i + ((yIt (k.toInt.toNat - (i + 1)) (yTr ρ)).2 + 1) = i + 1 + (yIt (k.toInt.toNat - (i + 1)) (yTr ρ)).2 by omega]
          exact this
      · have h1 : Int32.ofNat i < k := cGeF h1
        rw [Int32.lt_iff_toInt_lt, hiI] at h1
        have h2 : ρ.1 25 10 = 0 := cNeF h2
        rcases hx with ⟨h3, m', hm, hx⟩ | ⟨h3, hx⟩
        · have e' : yIt (k.toInt.toNat - i) ρ = (yTr ρ, 0) := by
            rw [show k.toInt.toNat - i = (k.toInt.toNat - (i + 1)) + 1 by omega]
            conv => lhs; unfold yIt
            rw [if_pos h2, if_neg s]
          have s2 : ¬ (yTr ρ).1 25 10 = 0 := by
            rw [← e]
            show ¬ (2 : Int32) = 0
            decide
          have st2 : yIt (k.toInt.toNat - i) (yTr ρ) = (yTr ρ, 0) := by
            cases hn : k.toInt.toNat - i with
            | zero => rfl
            | succ s =>
              unfold yIt
              rw [if_neg s2]
          have := ih m' (by omega) i (yTr ρ) hi (by rw [← e]; exact hx)
          rw [st2] at this
          rw [e']
          exact this
        · exact absurd rfl (cEqF h3)
  replace hx := zTr (C := nC14) (tb := [(36, sp36), (37, sp37)]) h0 rfl rfl ⟨z36 h0, z37 h0, trivial⟩ (fun pc => pc.beq 37) 60 hx
  obtain ⟨_, _, (⟨q, rfl, rfl⟩ | ⟨q, rfl, rfl⟩), hx⟩ := hx
  · rcases hx with ⟨h1, ⟨h2, m', hm, hx⟩ | ⟨h2, _, _, ⟨rfl, rfl⟩, hx⟩⟩ | ⟨h1, hx⟩
    · have hk' := in500_i q
      have := loop q m' 0 (y0 τ) (by omega) hx
      rw [Nat.zero_add] at this
      exact .inr (.inr ⟨q, cLeT h2, this⟩)
    · exact .inr (.inl ⟨q, cLeF h2, hx⟩)
    · exact absurd (cNeF h1) (by decide)
  · rcases hx with ⟨h1, hx⟩ | ⟨h1, _, _, ⟨rfl, rfl⟩, hx⟩
    · exact absurd rfl (cNeT h1)
    · exact .inl ⟨q, hx⟩
end LP
section IT
/-- both loops in step -/
theorem it_ok : ∀ (n : Nat) {σ τ : zS}, pQ σ τ → 0 ≤ (σ.1 7 7).toInt → (σ.1 7 7).toInt + n < 2000000000 → (σ.1 2 8).toInt ≤ (σ.1 7 7).toInt → pQ (cIt n σ) (yIt n τ).1 ∧ cFr σ (cIt n σ) ∧ qFr τ (yIt n τ).1 ∧ (yIt n τ).2 ≤ n ∧ ((cIt n σ).1 7 7).toInt = (σ.1 7 7).toInt + (yIt n τ).2 ∧ ((cIt n σ).1 2 8).toInt ≤ ((cIt n σ).1 7 7).toInt
  | 0, σ, τ, h, h0, h1, hl => ⟨h, cFr_r σ, qFr_r τ, Nat.le_refl _, (Int.add_zero _).symm, hl⟩
  | n + 1, σ, τ, h, h0, h1, hl => by
    have hst : σ.1 7 6 = τ.1 25 10 := h.st
    unfold cIt yIt
    rw [hst]
    by_cases s : τ.1 25 10 = 0
    · rw [if_pos s, if_pos s]
      obtain ⟨t1, t2, t3, t4⟩ := try_ok h ⟨h0, by omega⟩ (by omega)
      have hl0 : 0 ≤ (σ.1 2 8).toInt := h.li.2.1
      rcases t4 with ⟨u1, u2, u3⟩ | ⟨u1, u2, u3, u4⟩
      · rw [if_pos u1]
        have e1 : ((cTry σ).1 7 7).toInt = (σ.1 7 7).toInt + 1 := by
          rw [u2, Int32.toInt_add, show (1 : Int32).toInt = 1 from rfl, bm32 (by omega) (by omega)]
        have e2 : ((cTry σ).1 2 8).toInt ≤ (σ.1 2 8).toInt + 1 := by
          rcases u3 with u3 | u3
          · rw [u3]
            omega
          · rw [u3, Int32.toInt_add, show (1 : Int32).toInt = 1 from rfl, bm32 (by omega) (by omega)]
            omega
        obtain ⟨i1, i2, i3, i4, i5, i6⟩ := it_ok n t1 (by omega) (by omega) (by omega)
        refine ⟨i1, cFr_t t2 i2, qFr_t t3 i3, by dsimp only; omega, by dsimp only; omega, i6⟩
      · rw [if_neg u1]
        have st : ¬ (cTry σ).1 7 6 = 0 := by
          rw [u4]
          decide
        have ec : cIt n (cTry σ) = cTry σ := by
          cases n with
          | zero => rfl
          | succ n =>
            unfold cIt
            rw [if_neg st]
        rw [ec]
        refine ⟨t1, t2, t3, Nat.zero_le _, ?_, ?_⟩
        · rw [u2]
          exact (Int.add_zero _).symm
        · rw [u2, u3]
          exact hl
    · rw [if_neg s, if_neg s]
      exact ⟨h, cFr_r σ, qFr_r τ, Nat.zero_le _, (Int.add_zero _).symm, hl⟩
end IT
