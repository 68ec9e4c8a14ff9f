/-! THE REFERENCE: instruction() -/
def yF0 (n : Int32) : Int32 := n / 128 - n / 128 / 64 * 64
def yIx (τ : zS) (p : Int32) : Option (Int32 × Int32) := if yH τ p = 44 then (match yEx τ (p + 1) with
  | none => none
  | some y => if ¬ y.1 < 0 ∧ ¬ 6 < y.1 then some y else none) else some (0, p)
def yFx (τ : zS) (n f p : Int32) : Option (Int32 × Int32) := if yH τ p = 40 then (match yEx τ (p + 1) with
  | none => none
  | some y => if yH τ y.2 = 41 ∧ ¬ y.1 < 0 ∧ ¬ 63 < y.1 ∧ n < 8192 then some (y.1, y.2 + 1) else none) else some (f, p)
def yIF (τ : zS) (n f p : Int32) : Option (Int32 × Int32) := match yIx τ p with
  | none => none
  | some i => match yFx τ n f i.2 with
    | none => none
    | some y => if y.2 = yE τ then some (i.1, y.1) else none
def yWd (v i f n : Int32) : Int32 := yMade ((((zMag (yOf v) <<< ((18 : Int32) &&& (31 : Int32))) ||| (i <<< ((12 : Int32) &&& (31 : Int32)))) ||| (f <<< ((6 : Int32) &&& (31 : Int32)))) ||| (n - n / 128 * 128)) (yOf v &&& 1 = 1)
abbrev yBnd (τ : zS) : Prop := (yP τ).toInt ≤ 1000 ∧ (yE τ).toInt ≤ 240
/-- the end of an instruction: i and f are read -/
abbrev yInE (τ : zS) (x n i f q : Int32) (σ' : zS) : Prop := (¬ q = yE τ ∧ ¬ yB σ' = 0) ∨ (q = yE τ ∧ ((¬ yPlc (yPl τ) ∧ ¬ yB σ' = 0) ∨ (yPlc (yPl τ) ∧ zI (yStd (zPb2 τ q 0) (yPl τ) (yWd x i f n)) 25 24 (yPl τ + 1) = σ')))
section RF
variable {c0 : mH} {v5 : Value}
theorem z103_e (h0 : zC0 c0) {d n0 m : Nat} {r : mO × mH} {τ : zS} {x n i f q b : Int32} (hx : zF v5 d n0 103 m 123 [(4, .int i), (3, .int x), (2, .int f), (0, .ref 183), (1, .int n)] [] (zH c0 (zPb2 τ q b)) = some r) : ∃ σ', r = zOut c0 (.inl none) σ' ∧ yFr τ σ' ∧ (¬ b = 0 → ¬ yB σ' = 0) ∧ (b = 0 → yInE τ x n i f q σ') := by
  replace hx := zTr (C := nC103) (tb := [(40, sp40)]) h0 rfl rfl ⟨z40 h0, trivial⟩ (fun pc => pc.beq 138) 60 hx
  have bad : ∀ (m' : Nat) (b3 : Int32), ¬ b3 = 0 → zF v5 d n0 103 m' 138 [(4, .int i), (3, .int x), (2, .int f), (0, .ref 183), (1, .int n)] [] (zH c0 (zPb2 τ q b3)) = some r → r = zOut c0 (.inl none) (zPb2 τ q b3) := by
    intro m' b3 hb hx
    rcases zTr (C := nC103) (tb := []) h0 rfl rfl trivial (fun pc => pc.beq 146) 60 hx with ⟨h, -⟩ | ⟨-, hx⟩
    · exact absurd (show b3 = 0 from cEqT h) hb
    · exact hx
  rcases hx with ⟨g1, m1, hm1, hx⟩ | ⟨g1, _, _, ⟨rfl, rfl⟩, m1, hm1, hx⟩
  · have g1 : q = yE τ := cEqT g1
    by_cases hb : b = 0
    · have hx : zF v5 d n0 103 m1 138 [(4, .int i), (3, .int x), (2, .int f), (0, .ref 183), (1, .int n)] [] (zH c0 (zPb2 τ q b)) = some r := hx
      rw [hb] at hx
      replace hx := zTr (C := nC103) (tb := [(101, sp101), (70, sp70), (73, sp73), (146, sp146), (151, sp151)]) h0 rfl rfl ⟨z101 h0, z70 h0, z73 h0, z146 h0, z151 h0, trivial⟩ (fun _ => false) 80 hx
      rcases hx with ⟨-, _, _, ⟨rfl, rfl⟩, _, _, ⟨rfl, rfl⟩, -, hx⟩ | ⟨h, -⟩
      · have word : ∀ (bb : Int32), ((bb = 1 ∧ yOf x &&& 1 = 1) ∨ (bb = 0 ∧ ¬ yOf x &&& 1 = 1)) → 2 * ((((zMag (yOf x) <<< ((18 : Int32) &&& (31 : Int32))) ||| (i <<< ((12 : Int32) &&& (31 : Int32)))) ||| (f <<< ((6 : Int32) &&& (31 : Int32)))) ||| (n - n / 128 * 128)) + (if bb = 0 then 0 else 1) = yWd x i f n := by
          intro bb h
          unfold yWd yMade
          rcases h with ⟨rfl, h⟩ | ⟨rfl, h⟩
          · rw [if_pos h, if_neg (by decide)]
          · rw [if_neg h, if_pos rfl]
        have fin : ∀ (W : Int32), W = yWd x i f n → (∃ o σ1, ((¬ yPlc (yPl τ) ∧ zN (zI (zPb2 τ q 0) 25 23 1) o σ1) ∨ (yPlc (yPl τ) ∧ zN (yStd (zPb2 τ q 0) (yPl τ) W) o σ1)) ∧ (o = .inl none → r = zOut c0 (.inl none) (zI σ1 25 24 (σ1.1 25 24 + 1)))) → ∃ σ', r = zOut c0 (.inl none) σ' ∧ yFr τ σ' ∧ (¬ b = 0 → ¬ yB σ' = 0) ∧ (b = 0 → yInE τ x n i f q σ') := by
          rintro W rfl ⟨o, σ1, ⟨k1, rfl, rfl⟩ | ⟨k1, rfl, rfl⟩, k2⟩
          · exact ⟨_, k2 rfl, yFr_I (yFr_I (yFr_P (yFr_refl _)) rfl) rfl, fun _ => (by show ¬ (1 : Int32) = 0; decide), fun _ => Or.inr ⟨g1, Or.inl ⟨k1, by show ¬ (1 : Int32) = 0; decide⟩⟩⟩
          · exact ⟨_, k2 rfl, yFr_I (yFr_S (yFr_P (yFr_refl _))) rfl, fun h => absurd hb h, fun _ => Or.inr ⟨g1, Or.inr ⟨k1, rfl⟩⟩⟩
        obtain ⟨_, _, ⟨k1, rfl, rfl⟩ | ⟨k1, rfl, rfl⟩, _, _, ⟨rfl, rfl⟩, o, σ1, h5, hx⟩ := hx
        · refine fin _ (word 1 (Or.inl ⟨rfl, k1⟩)) ⟨o, σ1, h5, fun ho => ?_⟩
          subst ho
          exact hx
        · refine fin _ (word 0 (Or.inr ⟨rfl, k1⟩)) ⟨o, σ1, h5, fun ho => ?_⟩
          subst ho
          exact hx
      · exact absurd rfl (cEqF h)
    · exact ⟨_, bad m1 b hb hx, yFr_P (yFr_refl _), fun _ => hb, fun h => absurd h hb⟩
  · have g1 : ¬ q = yE τ := cEqF g1
    have hx : zF v5 d n0 103 m1 138 [(4, .int i), (3, .int x), (2, .int f), (0, .ref 183), (1, .int n)] [] (zH c0 (zI (zPb2 τ q b) 25 23 1)) = some r := hx
    rw [show zI (zPb2 τ q b) 25 23 1 = zPb2 τ q 1 from zI_zI 25 23 _ _] at hx
    exact ⟨_, bad m1 1 (by decide) hx, yFr_P (yFr_refl _), fun _ => (by show ¬ (1 : Int32) = 0; decide), fun _ => Or.inl ⟨g1, by show ¬ (1 : Int32) = 0; decide⟩⟩
end RF
