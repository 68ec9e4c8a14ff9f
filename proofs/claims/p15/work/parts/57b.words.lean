/-! THE REFERENCE: W -/
abbrev yOkf (f : Int32) : Prop := ¬ f < 0 ∧ ¬ 63 < f ∧ yFd5 f
def yFl (τ : zS) (p : Int32) : Option (Int32 × Int32) := if yH τ p = 40 then (match yEx τ (p + 1) with
  | none => none
  | some y => if yH τ y.2 = 41 ∧ yOkf y.1 then some (y.1, y.2 + 1) else none) else some (5, p)
def yWF (τ : zS) : Nat → Int32 → Int32 → Option (Int32 × Int32)
  | 0, _, _ => none
  | k + 1, w, p => match yEx τ p with
    | none => none
    | some x => match yFl τ x.2 with
      | none => none
      | some f => if yH τ f.2 = 44 then yWF τ k (yPut w f.1 (yOf x.1)) (f.2 + 1) else some (yPut w f.1 (yOf x.1), f.2)
def yWs (τ : zS) (w p : Int32) : Option (Int32 × Int32) := yWF τ (((yE τ).toInt - p.toInt).toNat + 1) w p
theorem yLoopF_ge {τ : zS} : ∀ (f : Nat) (v p : Int32) (b : Int32 × Int32), yLoopF (yA τ) (yT τ) (yE τ) f v p = some b → p.toInt ≤ b.2.toInt ∧ (b.2.toInt ≤ (yE τ).toInt ∨ b.2 = p)
  | 0, v, p, b, h => by cases h; exact ⟨Int.le_refl _, Or.inr rfl⟩
  | f + 1, v, p, b, h => by
    unfold yLoopF at h
    split at h
    · rename_i hc
      cases hb : yA τ (p + 1) with
      | none => rw [hb] at h; cases h
      | some y =>
        rw [hb] at h
        dsimp only at h
        split at h
        · cases h
        · rename_i x hx
          have h1 := yA_ge _ _ hb
          have h2 := yLoopF_ge f x y.2 b h
          have h3 := zInc hc.1
          refine ⟨by omega, Or.inl ?_⟩
          rcases h2.2 with h4 | h4
          · exact h4
          · rw [h4]; exact h1.2
    · cases h; exact ⟨Int.le_refl _, Or.inr rfl⟩
theorem yEx_ge {τ : zS} {p : Int32} {b : Int32 × Int32} (h : yEx τ p = some b) : p.toInt ≤ b.2.toInt ∧ b.2.toInt ≤ (yE τ).toInt := by
  have key : ∀ (p' v : Int32) (y : Int32 × Int32), p.toInt ≤ p'.toInt → yA τ p' = some y → yLoop (yA τ) (yT τ) (yE τ) v y.2 = some b → p.toInt ≤ b.2.toInt ∧ b.2.toInt ≤ (yE τ).toInt := by
    intro p' v y hp hy hl
    have h1 := yA_ge _ _ hy
    have h2 := yLoopF_ge _ _ _ _ hl
    refine ⟨by omega, ?_⟩
    rcases h2.2 with h3 | h3
    · exact h3
    · rw [h3]; exact h1.2
  unfold yEx at h
  split at h
  · rename_i h1
    have hl := zInc (yH_lt h1 (by decide)).1
    cases hy : yA τ (p + 1) with
    | none => rw [hy] at h; cases h
    | some y => rw [hy] at h; exact key _ _ _ (by omega) hy h
  · split at h
    · cases h
    · rename_i y hy
      refine key _ _ _ ?_ hy h
      split
      · rename_i h2
        have hl := zInc (yH_lt h2 (by decide)).1
        omega
      · exact Int.le_refl _
theorem yFl_ge {τ : zS} {p : Int32} {b : Int32 × Int32} (h : yFl τ p = some b) : p.toInt ≤ b.2.toInt := by
  unfold yFl at h
  split at h
  · rename_i h1
    have hl := zInc (yH_lt h1 (by decide)).1
    split at h
    · cases h
    · rename_i y hy
      split at h
      · rename_i h2
        cases h
        have h3 := zInc (yH_lt h2.1 (by decide)).1
        have h4 := yEx_ge hy
        dsimp only
        omega
      · cases h
  · cases h; exact Int.le_refl _
theorem yWF_fuel {τ : zS} : ∀ (f f' : Nat) (w p : Int32), ((yE τ).toInt - p.toInt).toNat + 1 ≤ f → ((yE τ).toInt - p.toInt).toNat + 1 ≤ f' → yWF τ f w p = yWF τ f' w p
  | 0, _, w, p, h, _ => by omega
  | f + 1, 0, w, p, _, h => by omega
  | f + 1, f' + 1, w, p, h, h' => by
    unfold yWF
    cases hx : yEx τ p with
    | none => rfl
    | some x =>
      dsimp only
      cases hf : yFl τ x.2 with
      | none => rfl
      | some y =>
        dsimp only
        by_cases hc : yH τ y.2 = 44
        · rw [if_pos hc, if_pos hc]
          have h1 := yEx_ge hx
          have h2 := yFl_ge hf
          have h3 := yH_lt hc (by decide)
          have h4 := zInc h3.1
          have h5 := Int32.lt_iff_toInt_lt.mp h3.1
          exact yWF_fuel f f' _ _ (by omega) (by omega)
        · rw [if_neg hc, if_neg hc]
theorem yWs_step (τ : zS) (w p : Int32) : yWs τ w p = (match yEx τ p with
    | none => none
    | some x => match yFl τ x.2 with
      | none => none
      | some f => if yH τ f.2 = 44 then yWs τ (yPut w f.1 (yOf x.1)) (f.2 + 1) else some (yPut w f.1 (yOf x.1), f.2)) := by
  unfold yWs
  conv => lhs; unfold yWF
  cases hx : yEx τ p with
  | none => rfl
  | some x =>
    dsimp only
    cases hf : yFl τ x.2 with
    | none => rfl
    | some y =>
      dsimp only
      by_cases hc : yH τ y.2 = 44
      · rw [if_pos hc, if_pos hc]
        have h1 := yEx_ge hx
        have h2 := yFl_ge hf
        have h3 := yH_lt hc (by decide)
        have h4 := zInc h3.1
        have h5 := Int32.lt_iff_toInt_lt.mp h3.1
        exact yWF_fuel _ _ _ _ (by omega) (Nat.le_refl _)
      · rw [if_neg hc, if_neg hc]
abbrev sp152 (as : List Value) (σ : zS) : Option zCs := match as with
  | [.ref 183] => some (yTo σ (yWs σ 0 (yP σ)))
  | _ => none
abbrev yWp (τ : zS) (w p b : Int32) (r : mO × mH) (c0 : mH) : Prop := ∃ x q b', r = zOut c0 (.inl (some (.int x))) (zPb2 τ q b') ∧ (¬ b = 0 → ¬ b' = 0) ∧ (b = 0 → p.toInt ≤ 1000 ∧ (yE τ).toInt ≤ 240 → (b' = 0 ∧ yWs τ w p = some (x, q)) ∨ (¬ b' = 0 ∧ yWs τ w p = none))
/-- an expression from here on, in its own words -/
theorem yTo_2 {τ σ' : zS} {p b : Int32} {o : zO} (h : yTo (zPb2 τ p b) (yEx (zPb2 τ p b) (yP (zPb2 τ p b))) o σ') : ∃ x q b', o = .inl (some (.int x)) ∧ zPb2 τ q b' = σ' ∧ (¬ b = 0 → ¬ b' = 0) ∧ (b = 0 → p.toInt ≤ 1000 ∧ (yE τ).toInt ≤ 240 → (b' = 0 ∧ yEx τ p = some (x, q)) ∨ (¬ b' = 0 ∧ yEx τ p = none)) := by
  obtain ⟨x, q, b', h1, h2, h3, h4⟩ := h
  rw [zPb2_2] at h2
  exact ⟨x, q, b', h1, h2, h3, h4⟩
section RF
variable {c0 : mH} {v5 : Value}
/-- no more -/
theorem z152_0 (h0 : zC0 c0) {d n m : Nat} {r : mO × mH} {τ : zS} {lv : mL} {w : Int32} {E : mL} (hl : lv = (2, .int 0) :: (1, .int w) :: (0, .ref 183) :: E) (hx : zF v5 d n 152 m 4 lv [] (zH c0 τ) = some r) : r = zOut c0 (.inl (some (.int w))) τ := by
  subst hl
  rcases zTr (C := nC152) (tb := []) h0 rfl rfl trivial (fun _ => false) 40 hx with ⟨-, hx⟩ | ⟨h, -⟩
  · exact hx
  · exact absurd rfl (cEqF h)
/-- wrong before the word is stored -/
theorem z152_b (h0 : zC0 c0) {d n m : Nat} {r : mO × mH} {τ : zS} {v f w q b : Int32} (hb : ¬ b = 0) (hx : zF v5 d n 152 m 92 [(4, .int f), (3, .int v), (2, .int 1), (1, .int w), (0, .ref 183)] [] (zH c0 (zPb2 τ q b)) = some r) : ∃ q', r = zOut c0 (.inl (some (.int w))) (zPb2 τ q' b) := by
  replace hx := zTr (C := nC152) (tb := []) h0 rfl rfl trivial (fun pc => pc.beq 4) 60 hx
  rcases hx with ⟨-, ⟨-, ⟨-, m', hm, hx⟩ | ⟨h, -⟩⟩ | ⟨h, -⟩⟩ | ⟨h, -⟩
  · have hx : zF v5 d n 152 m' 4 [(2, .int 0), (4, .int f), (3, .int v), (1, .int w), (0, .ref 183)] [] (zH c0 (zI (zPb2 τ q b) 25 21 (q + 0))) = some r := hx
    have hx := zF_lv (b := [(2, .int 0), (1, .int w), (0, .ref 183), (4, .int f), (3, .int v)]) (fun e he => by
      simp only [List.mem_cons, List.not_mem_nil, or_false] at he
      rcases he with rfl | rfl | rfl | rfl | rfl <;> rfl) hx
    rw [zPb2_p, zPb2_2] at hx
    exact ⟨_, z152_0 h0 rfl hx⟩
  · exact absurd rfl (cEqF h)
  · exact absurd (show b = 0 from cNeF h) hb
  · exact absurd (show b = 0 from cNeF h) hb
end RF
