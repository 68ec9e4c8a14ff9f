/-! TEXT: names -/
def zChr (T : Nat → Int32) (p : Int32) (n : Nat) : Int32 := T (p + Int32.ofNat n).toNatClampNeg
def zPk (T : Nat → Int32) (p : Int32) : Nat → Int64
  | 0 => 0
  | n + 1 => zPk T p n ||| ((zChr T p n).toInt64 <<< (((Int8.ofInt 8).toInt32 * Int32.ofNat n).toInt64 &&& 63))
def zNu (T : Nat → Int32) (p : Int32) : Nat → Int32
  | 0 => 0
  | n + 1 => zNu T p n * 10 + (zChr T p n - 48)
abbrev zCap (c : Int32) : Prop := ¬ c < 65 ∧ ¬ 90 < c
abbrev zDig (c : Int32) : Prop := ¬ c < 48 ∧ ¬ 57 < c
abbrev zPln (c : Int32) : Prop := zCap c ∨ zDig c
def zCb (c : Int32) : Int32 := if ¬ c < 65 ∧ ¬ 90 < c then 1 else 0
def zPb (c : Int32) : Bool := decide ((¬ c < 65 ∧ ¬ 90 < c) ∨ (¬ c < 48 ∧ ¬ 57 < c))
def zCp (T : Nat → Int32) (p : Int32) : Nat → Int32
  | 0 => 0
  | n + 1 => zCp T p n + zCb (zChr T p n)
abbrev zRun (T : Nat → Int32) (e p : Int32) : Int32 := zSc (fun k => zPb (T k.toNatClampNeg)) e p
/-- behind a name of n characters from p on -/
def zNs (σ : zS) (p : Int32) (n : Nat) : zS := zI (zI (zI (zI (zL σ 9 6 (zPk (xT σ) p (min n 6))) 9 8 (zCp (xT σ) p n)) 9 9 (zNu (xT σ) p n)) 9 7 (Int32.ofNat n)) 9 2 (p + Int32.ofNat n)
abbrev sp120 (as : List Value) (σ : zS) : Option zCs := match as with
  | [.ref 167] => some (fun o σ' => ∃ n : Nat, xAt σ + Int32.ofNat n = zRun (xT σ) (xPe σ) (xAt σ) ∧ (xAt σ + Int32.ofNat n).toInt = (xAt σ).toInt + n ∧ (n = 0 ∨ (0 ≤ (xAt σ).toInt ∧ n ≤ 240)) ∧ zN (zNs σ (xAt σ) n) o σ')
  | _ => none
theorem u2_4 {α : Type} (f : Nat → Nat → α) (a b c d a' b' c' d' : α) : u2 (u2 (u2 (u2 (u2 (u2 (u2 (u2 f 9 8 a) 9 9 b) 9 7 c) 9 2 d) 9 8 a') 9 9 b') 9 7 c') 9 2 d' = u2 (u2 (u2 (u2 f 9 8 a') 9 9 b') 9 7 c') 9 2 d' := by
  funext k i
  unfold u2
  cases (k.beq 9 && i.beq 8) <;> cases (k.beq 9 && i.beq 9) <;> cases (k.beq 9 && i.beq 7) <;> cases (k.beq 9 && i.beq 2) <;> rfl
theorem zNs_next (σ : zS) (p : Int32) (n : Nat) (x y z w : Int32) (u : Int64) : zI (zI (zI (zI (zL (zNs σ p n) 9 6 u) 9 8 x) 9 9 y) 9 7 z) 9 2 w = zI (zI (zI (zI (zL σ 9 6 u) 9 8 x) 9 9 y) 9 7 z) 9 2 w := by
  unfold zNs zI zL
  dsimp only
  rw [u2_4, u2_u2]
theorem zIn {i : Int32} {n : Nat} (h : mIn i n = true) : 0 ≤ i.toInt ∧ i.toInt < n ∧ (i.toNatClampNeg : Int) = i.toInt := by
  unfold mIn at h
  rw [Bool.and_eq_true, Bool.not_eq_true', decide_eq_false_iff_not, decide_eq_true_eq, Int32.lt_iff_toInt_lt] at h
  have z : (0 : Int32).toInt = 0 := rfl
  rw [z] at h
  have e : i.toNatClampNeg = i.toInt.toNat := rfl
  omega
theorem zOfS (n : Nat) : Int32.ofNat (n + 1) = Int32.ofNat n + 1 := by
  rw [Int32.ofNat_add]
  rfl
theorem zOfI {n : Nat} (h : n ≤ 1000) : (Int32.ofNat n).toInt = n := Int32.toInt_ofNat_of_lt (by omega)
section TX
variable {c0 : mH} {v5 : Value}
theorem z120_l (h0 : zC0 c0) {d n0 : Nat} {r : mO × mH} {σ : zS} {p : Int32} : ∀ (m n : Nat) (b c : Int32), (p + Int32.ofNat n).toInt = p.toInt + n → (n = 0 ∨ (0 ≤ p.toInt ∧ n ≤ 240)) → zF v5 d n0 120 m 20 [(2, .int b), (1, .int c), (0, .ref 167)] [] (zH c0 (zNs σ p n)) = some r → ∃ n' : Nat, p + Int32.ofNat n' = zRun (xT σ) (xPe σ) (p + Int32.ofNat n) ∧ (p + Int32.ofNat n').toInt = p.toInt + n' ∧ (n' = 0 ∨ (0 ≤ p.toInt ∧ n' ≤ 240)) ∧ r = zOut c0 (.inl none) (zNs σ p n') := by
  intro m
  induction m using Nat.strongRecOn with
  | ind m ih =>
    intro n b c hp hz hx
    have hx := zTr (C := nC120) (tb := []) h0 rfl rfl trivial (fun pc => pc.beq 20 || pc.beq 60) 100 hx
    have stop : ¬ (p + Int32.ofNat n < xPe σ ∧ zPb (xT σ (p + Int32.ofNat n).toNatClampNeg) = true) → r = zOut c0 (.inl none) (zNs σ p n) → ∃ n' : Nat, p + Int32.ofNat n' = zRun (xT σ) (xPe σ) (p + Int32.ofNat n) ∧ (p + Int32.ofNat n').toInt = p.toInt + n' ∧ (n' = 0 ∨ (0 ≤ p.toInt ∧ n' ≤ 240)) ∧ r = zOut c0 (.inl none) (zNs σ p n') := by
      intro hn hr
      exact ⟨n, by unfold zRun; rw [zSc_stop hn], hp, hz, hr⟩
    have hC : ∀ {x : Int32}, x = xT σ (p + Int32.ofNat n).toNatClampNeg → x = zChr (xT σ) p n := fun h => h
    have go : ∀ (m' : Nat) (b' X U : _) , p + Int32.ofNat n < xPe σ → mIn (p + Int32.ofNat n) 240 = true → zPb (zChr (xT σ) p n) = true → X = zCp (xT σ) p (n + 1) → U = zPk (xT σ) p (min (n + 1) 6) → m' < m → zF v5 d n0 120 m' 20 [(2, .int b'), (1, .int (zChr (xT σ) p n)), (0, .ref 167)] [] (zH c0 (zI (zI (zI (zI (zL (zNs σ p n) 9 6 U) 9 8 X) 9 9 (zNu (xT σ) p (n + 1))) 9 7 (Int32.ofNat n + 1)) 9 2 (p + Int32.ofNat n + 1))) = some r → ∃ n' : Nat, p + Int32.ofNat n' = zRun (xT σ) (xPe σ) (p + Int32.ofNat n) ∧ (p + Int32.ofNat n').toInt = p.toInt + n' ∧ (n' = 0 ∨ (0 ≤ p.toInt ∧ n' ≤ 240)) ∧ r = zOut c0 (.inl none) (zNs σ p n') := by
      intro m' b' X U hl hi hpl hX hU hm hx
      obtain ⟨i1, i2, _⟩ := zIn hi
      rw [zNs_next, hX, hU, ← zOfS, Int32.add_assoc, ← zOfS] at hx
      have e1 : (p + Int32.ofNat (n + 1)).toInt = p.toInt + (n + 1 : Nat) := by
        rw [zOfS, ← Int32.add_assoc, zInc hl, hp]
        omega
      obtain ⟨n', a1, a2, a3, a4⟩ := ih m' hm (n + 1) _ _ e1 (Or.inr (by omega)) hx
      refine ⟨n', ?_, a2, a3, a4⟩
      rw [a1]
      unfold zRun
      rw [zSc_go hl hpl, zOfS, ← Int32.add_assoc]
    have nm6 : (mCnd .ge (Int32.ofNat n) 6 = false) → mIn (p + Int32.ofNat n) 240 = true → zPk (xT σ) p (min n 6) ||| ((zChr (xT σ) p n).toInt64 <<< (((Int8.ofInt 8).toInt32 * Int32.ofNat n).toInt64 &&& 63)) = zPk (xT σ) p (min (n + 1) 6) := by
      intro h hi
      obtain ⟨i1, i2, _⟩ := zIn hi
      have h := Int32.lt_iff_toInt_lt.mp (cGeF h)
      rw [zOfI (by omega), show (6 : Int32).toInt = 6 from rfl] at h
      rw [show min n 6 = n by omega, show min (n + 1) 6 = n + 1 by omega]
      rfl
    have nm7 : (mCnd .ge (Int32.ofNat n) 6 = true) → mIn (p + Int32.ofNat n) 240 = true → (zNs σ p n).2.1 9 6 = zPk (xT σ) p (min (n + 1) 6) := by
      intro h hi
      obtain ⟨i1, i2, _⟩ := zIn hi
      have h : ¬ (Int32.ofNat n).toInt < (6 : Int32).toInt := fun h' => cGeT h (Int32.lt_iff_toInt_lt.mpr h')
      rw [zOfI (by omega), show (6 : Int32).toInt = 6 from rfl] at h
      show zPk (xT σ) p (min n 6) = _
      rw [show min n 6 = 6 by omega, show min (n + 1) 6 = 6 by omega]
    have self : zL (zNs σ p n) 9 6 ((zNs σ p n).2.1 9 6) = zNs σ p n := by
      unfold zL
      rw [u2_self]
    have cp0 : ¬ zCap (zChr (xT σ) p n) → zCp (xT σ) p n + 0 = zCp (xT σ) p (n + 1) := fun h => by
      show _ = zCp (xT σ) p n + zCb (zChr (xT σ) p n)
      unfold zCb
      rw [if_neg (show ¬ (¬ zChr (xT σ) p n < 65 ∧ ¬ 90 < zChr (xT σ) p n) from h)]
    have cp1 : zCap (zChr (xT σ) p n) → zCp (xT σ) p n + 1 = zCp (xT σ) p (n + 1) := fun h => by
      show _ = zCp (xT σ) p n + zCb (zChr (xT σ) p n)
      unfold zCb
      rw [if_pos (show ¬ zChr (xT σ) p n < 65 ∧ ¬ 90 < zChr (xT σ) p n from h)]
    have low : ∀ (m1 : Nat) (hm1 : m1 < m) (hcap : ¬ zCap (zChr (xT σ) p n)) (hl : p + Int32.ofNat n < xPe σ) (hi : mIn (p + Int32.ofNat n) 240 = true), zF v5 d n0 120 m1 60 [(2, .int 0), (1, .int (zChr (xT σ) p n)), (0, .ref 167)] [.int 0] (zH c0 (zNs σ p n)) = some r → ∃ n' : Nat, p + Int32.ofNat n' = zRun (xT σ) (xPe σ) (p + Int32.ofNat n) ∧ (p + Int32.ofNat n').toInt = p.toInt + n' ∧ (n' = 0 ∨ (0 ≤ p.toInt ∧ n' ≤ 240)) ∧ r = zOut c0 (.inl none) (zNs σ p n') := by
      intro m1 hm1 hcap hl hi hx
      have hx := zTr (C := nC120) (tb := []) h0 rfl rfl trivial (fun pc => pc.beq 20) 100 hx
      rcases hx with ⟨h, -⟩ | ⟨-, ⟨h, hx⟩ | ⟨h, ⟨h', hx⟩ | ⟨h', hx⟩⟩⟩
      · exact absurd rfl (cNeT h)
      · refine stop (fun hh => ?_) hx
        have := of_decide_eq_true hh.2
        exact this.elim hcap (fun hd => hd.1 (cLtT h))
      · have hpl : zPb (zChr (xT σ) p n) = true := decide_eq_true (Or.inr ⟨cLtF h, cLeT h'⟩)
        rcases hx with ⟨h6, ⟨h, m', hm, hx⟩ | ⟨h, -⟩⟩ | ⟨h6, ⟨h, m', hm, hx⟩ | ⟨h, -⟩⟩
        · rw [← self, nm7 h6 hi] at hx
          exact go m' 0 _ _ hl hi hpl (cp0 hcap) rfl (by omega) hx
        · exact absurd rfl (cEqF h)
        · exact go m' 0 _ _ hl hi hpl (cp0 hcap) (nm6 h6 hi) (by omega) hx
        · exact absurd rfl (cEqF h)
      · refine stop (fun hh => ?_) hx
        have := of_decide_eq_true hh.2
        exact this.elim hcap (fun hd => hd.2 (cLeF h'))
    rcases hx with ⟨h1, hx⟩ | ⟨h1, h2, ⟨h3, m1, hm1, hx⟩ | ⟨h3, ⟨h4, m1, hm1, hx⟩ | ⟨h4, m1, hm1, hx⟩⟩⟩
    · exact stop (fun h => cGeT h1 h.1) hx
    · exact low m1 (by omega) (fun h => h.1 (cLtT h3)) (cGeF h1) h2 hx
    · exact low m1 (by omega) (fun h => h.2 (cGtT h4)) (cGeF h1) h2 hx
    · have hcap : zCap (zChr (xT σ) p n) := ⟨cLtF h3, cGtF h4⟩
      have hpl : zPb (zChr (xT σ) p n) = true := decide_eq_true (Or.inl hcap)
      have hx := zTr (C := nC120) (tb := []) h0 rfl rfl trivial (fun pc => pc.beq 20) 100 hx
      rcases hx with ⟨-, hx⟩ | ⟨h, -⟩
      · rcases hx with ⟨h6, ⟨h, -⟩ | ⟨h, m', hm, hx⟩⟩ | ⟨h6, ⟨h, -⟩ | ⟨h, m', hm, hx⟩⟩
        · exact absurd (cEqT h) (by decide)
        · rw [← self, nm7 h6 h2] at hx
          exact go m' 1 _ _ (cGeF h1) h2 hpl (cp1 hcap) rfl (by omega) hx
        · exact absurd (cEqT h) (by decide)
        · exact go m' 1 _ _ (cGeF h1) h2 hpl (cp1 hcap) (nm6 h6 h2) (by omega) hx
      · exact absurd (cNeF h) (by decide)
theorem z120 (h0 : zC0 c0) : zSp c0 v5 120 sp120 := by
  intro d n as σ cs r hs hx
  unfold sp120 at hs
  split at hs
  · cases hs
    obtain ⟨d', hx⟩ := zGo hx
    have hx := zTr (C := nC120) (tb := []) h0 rfl rfl trivial (fun pc => pc.beq 20) 100 hx
    obtain ⟨m', hm, hx⟩ := hx
    have hx : zF v5 d' n 120 m' 20 [(0, .ref 167)] [] (zH c0 (zI (zI (zI (zL σ 9 6 0) 9 7 0) 9 8 0) 9 9 0)) = some r := hx
    have e : zI (zI (zI (zL σ 9 6 0) 9 7 0) 9 8 0) 9 9 0 = zNs σ (xAt σ) 0 := by
      have f1 : ∀ (f : Nat → Nat → Int32), u2 (u2 (u2 f 9 7 0) 9 8 0) 9 9 0 = u2 (u2 (u2 (u2 f 9 8 0) 9 9 0) 9 7 0) 9 2 (f 9 2) := by
        intro f
        funext k i
        by_cases h2 : k = 9 ∧ i = 2
        · obtain ⟨rfl, rfl⟩ := h2
          rfl
        · rw [u2_ne _ _ h2]
          unfold u2
          cases (k.beq 9 && i.beq 7) <;> cases (k.beq 9 && i.beq 8) <;> cases (k.beq 9 && i.beq 9) <;> rfl
      have z : xAt σ + Int32.ofNat 0 = xAt σ := Int32.add_zero _
      unfold zNs
      rw [z]
      unfold zI zL
      dsimp only
      rw [f1]
      rfl
    rw [e] at hx
    have hx := zF_lv (b := [(2, .int 0), (1, .int 0), (0, .ref 167)]) (fun q hq => by
      simp only [List.mem_cons, List.not_mem_nil, or_false] at hq
      subst hq
      rfl) hx
    have z : xAt σ + Int32.ofNat 0 = xAt σ := Int32.add_zero _
    obtain ⟨n', a1, a2, a3, a4⟩ := z120_l h0 m' 0 0 0 (by rw [z]; omega) (Or.inl rfl) hx
    rw [z] at a1
    exact ⟨_, _, ⟨n', a1, a2, a3, rfl, rfl⟩, a4⟩
  · cases hs
end TX
