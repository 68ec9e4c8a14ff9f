/-! THE REFERENCE: the end of its assembling -/
def yMw (S I M : Nat → Int32) (i : Nat) : Nat → Int32 := fun k => if k < i ∧ ¬ S k = 0 then I k else M k
def zCpy {α : Type} (A B : Nat → α) (i : Nat) : Nat → α := fun k => if k < i then A k else B k
theorem yMw_0 (S I M : Nat → Int32) : yMw S I M 0 = M := by
  funext k
  unfold yMw
  rw [if_neg (fun h => by omega)]
theorem yMw_s {S I M : Nat → Int32} {i : Nat} (h : ¬ S i = 0) : upd (yMw S I M i) i (I i) = yMw S I M (i + 1) := by
  funext k
  rw [upd_eq]
  unfold yMw
  by_cases hk : k = i
  · subst hk
    rw [if_pos rfl, if_pos ⟨by omega, h⟩]
  · rw [if_neg hk]
    by_cases hl : k < i ∧ ¬ S k = 0
    · rw [if_pos hl, if_pos ⟨by omega, hl.2⟩]
    · rw [if_neg hl, if_neg (fun g => hl ⟨by omega, g.2⟩)]
theorem yMw_n {S I M : Nat → Int32} {i : Nat} (h : S i = 0) : yMw S I M i = yMw S I M (i + 1) := by
  funext k
  unfold yMw
  by_cases hl : k < i ∧ ¬ S k = 0
  · rw [if_pos hl, if_pos ⟨by omega, hl.2⟩]
  · rw [if_neg hl, if_neg (fun g => hl ⟨by
      have : ¬ k = i := fun e => g.2 (by rw [e]; exact h)
      omega, g.2⟩)]
theorem zCpy_0 {α : Type} (A B : Nat → α) : zCpy A B 0 = B := by
  funext k
  unfold zCpy
  rw [if_neg (fun h => by omega)]
theorem zCpy_s (A B : Nat → Int32) (i : Nat) : upd (zCpy A B i) i (A i) = zCpy A B (i + 1) := by
  funext k
  rw [upd_eq]
  unfold zCpy
  by_cases hk : k = i
  · subst hk
    rw [if_pos rfl, if_pos (by omega)]
  · rw [if_neg hk]
    by_cases hl : k < i
    · rw [if_pos hl, if_pos (by omega)]
    · rw [if_neg hl, if_neg (by omega)]
theorem vp_updL_eq (f : Nat → Int64) (i : Nat) (x : Int64) (k : Nat) : vp_updL f i x k = if k = i then x else f k := rfl
theorem zCpy_sL (A B : Nat → Int64) (i : Nat) : vp_updL (zCpy A B i) i (A i) = zCpy A B (i + 1) := by
  funext k
  rw [vp_updL_eq]
  unfold zCpy
  by_cases hk : k = i
  · subst hk
    rw [if_pos rfl, if_pos (by omega)]
  · rw [if_neg hk]
    by_cases hl : k < i
    · rw [if_pos hl, if_pos (by omega)]
    · rw [if_neg hl, if_neg (by omega)]
abbrev yNV (σ : zS) (N : Nat → Int64) (V : Nat → Int32) : zS := zA (zB σ 45 N) 46 V
theorem yNV_2 (σ : zS) (N N' : Nat → Int64) (V V' : Nat → Int32) : yNV (yNV σ N V) N' V' = yNV σ N' V' := by
  unfold yNV zA zB
  dsimp only
  have e1 : u1 (u1 σ.2.2.1 46 V) 46 V' = u1 σ.2.2.1 46 V' := by
    funext k
    unfold u1
    cases k.beq 46 <;> rfl
  have e2 : u1 (u1 σ.2.2.2.1 45 N) 45 N' = u1 σ.2.2.2.1 45 N' := by
    funext k
    unfold u1
    cases k.beq 45 <;> rfl
  rw [e1, e2]
theorem yNV_self (σ : zS) : yNV σ (σ.2.2.2.1 45) (σ.2.2.1 46) = σ := by
  unfold yNV zA zB
  dsimp only
  rw [u1_self, u1_self]
abbrev yDn1 (τ : zS) : zS := zI (zA (zI τ 25 20 (-1)) 26 (yMw (τ.2.2.1 34) (τ.2.2.1 33) (τ.2.2.1 26) 200)) 25 42 (yCn τ)
/-- what is laid down at the end -/
abbrev yDone (τ : zS) : zS := zI (zI (yNV (yDn1 τ) (zCpy (τ.2.2.2.1 35) (τ.2.2.2.1 45) (yCn τ).toInt.toNat) (zCpy (τ.2.2.1 37) (τ.2.2.1 46) (yCn τ).toInt.toNat)) 25 6 (τ.1 25 25)) 25 10 0
section RF
variable {c0 : mH} {v5 : Value}
theorem z8_m (h0 : zC0 c0) {d n : Nat} {r : mO × mH} {σ : zS} {a k : Int32} {M : Nat → Int32} : ∀ (m i : Nat), i ≤ 200 → zF v5 d n 8 m 116 [(3, .int (Int32.ofNat i)), (2, .int a), (1, .int k), (0, .ref 183)] [] (zH c0 (zA σ 26 (yMw (σ.2.2.1 34) (σ.2.2.1 33) M i))) = some r → ∃ m' x, zF v5 d n 8 m' 150 [(3, .int x), (2, .int a), (1, .int k), (0, .ref 183)] [] (zH c0 (zA σ 26 (yMw (σ.2.2.1 34) (σ.2.2.1 33) M 200))) = some r := by
  intro m
  induction m using Nat.strongRecOn with
  | ind m ih =>
    intro i hi hx
    have hI : (Int32.ofNat i).toInt = i := zOfI (by omega)
    have hn : (Int32.ofNat i).toNatClampNeg = i := by
      have e : (Int32.ofNat i).toNatClampNeg = (Int32.ofNat i).toInt.toNat := rfl
      rw [e, hI]
      omega
    replace hx := zTr (C := nC8) (tb := []) h0 rfl rfl trivial (fun pc => pc.beq 116 || pc.beq 150) 40 hx
    rcases hx with ⟨h1, m', hm, hx⟩ | ⟨h1, -, ⟨h2, m', hm, hx⟩ | ⟨h2, -, -, m', hm, hx⟩⟩
    · have h1 : ¬ (i : Int) < 200 := fun h' => cGeT h1 (Int32.lt_iff_toInt_lt.mpr (by rw [hI]; exact h'))
      obtain rfl : i = 200 := by omega
      exact ⟨m', _, hx⟩
    · have h1 := Int32.lt_iff_toInt_lt.mp (cGeF h1)
      rw [hI] at h1
      have h1 : (i : Int) < 200 := h1
      have h2 : σ.2.2.1 34 (Int32.ofNat i).toNatClampNeg = 0 := cEqT h2
      rw [hn] at h2
      have hx : zF v5 d n 8 m' 116 [(3, .int (Int32.ofNat i + 1)), (2, .int a), (1, .int k), (0, .ref 183)] [] (zH c0 (zA σ 26 (yMw (σ.2.2.1 34) (σ.2.2.1 33) M i))) = some r := hx
      rw [yMw_n h2, ← zOfS] at hx
      exact ih m' (by omega) (i + 1) (by omega) hx
    · have h1 := Int32.lt_iff_toInt_lt.mp (cGeF h1)
      rw [hI] at h1
      have h1 : (i : Int) < 200 := h1
      have h2 : ¬ σ.2.2.1 34 (Int32.ofNat i).toNatClampNeg = 0 := cEqF h2
      rw [hn] at h2
      have hx : zF v5 d n 8 m' 116 [(3, .int (Int32.ofNat i + 1)), (2, .int a), (1, .int k), (0, .ref 183)] [] (zH c0 (zA (zA σ 26 (yMw (σ.2.2.1 34) (σ.2.2.1 33) M i)) 26 (upd (yMw (σ.2.2.1 34) (σ.2.2.1 33) M i) (Int32.ofNat i).toNatClampNeg (σ.2.2.1 33 (Int32.ofNat i).toNatClampNeg)))) = some r := hx
      rw [zA_zA, hn, yMw_s h2, ← zOfS] at hx
      exact ih m' (by omega) (i + 1) (by omega) hx
theorem z8_s (h0 : zC0 c0) {d n : Nat} {r : mO × mH} {σ : zS} {a k : Int32} {N0 : Nat → Int64} {V0 : Nat → Int32} : ∀ (m i : Nat), i ≤ 30 → (i = 0 ∨ (i : Int) ≤ (yCn σ).toInt) → zF v5 d n 8 m 160 [(3, .int (Int32.ofNat i)), (2, .int a), (1, .int k), (0, .ref 183)] [] (zH c0 (yNV σ (zCpy (σ.2.2.2.1 35) N0 i) (zCpy (σ.2.2.1 37) V0 i))) = some r → ∃ m' x, zF v5 d n 8 m' 198 [(3, .int x), (2, .int a), (1, .int k), (0, .ref 183)] [] (zH c0 (yNV σ (zCpy (σ.2.2.2.1 35) N0 (yCn σ).toInt.toNat) (zCpy (σ.2.2.1 37) V0 (yCn σ).toInt.toNat))) = some r := by
  intro m
  induction m using Nat.strongRecOn with
  | ind m ih =>
    intro i hi hc hx
    have hI : (Int32.ofNat i).toInt = i := zOfI (by omega)
    have hn : (Int32.ofNat i).toNatClampNeg = i := by
      have e : (Int32.ofNat i).toNatClampNeg = (Int32.ofNat i).toInt.toNat := rfl
      rw [e, hI]
      omega
    replace hx := zTr (C := nC8) (tb := []) h0 rfl rfl trivial (fun pc => pc.beq 160 || pc.beq 198) 40 hx
    rcases hx with ⟨h1, m', hm, hx⟩ | ⟨h1, h2, -, -, -, m', hm, hx⟩
    · have h1 : ¬ (i : Int) < (yCn σ).toInt := fun h' => cGeT h1 (Int32.lt_iff_toInt_lt.mpr (by rw [hI]; exact h'))
      obtain rfl : i = (yCn σ).toInt.toNat := by omega
      exact ⟨m', _, hx⟩
    · have h1 := Int32.lt_iff_toInt_lt.mp (cGeF h1)
      rw [hI] at h1
      have h1 : (i : Int) < (yCn σ).toInt := h1
      have h2 := zIn h2
      rw [hI] at h2
      have hx : zF v5 d n 8 m' 160 [(3, .int (Int32.ofNat i + 1)), (2, .int a), (1, .int k), (0, .ref 183)] [] (zH c0 (yNV (yNV σ (zCpy (σ.2.2.2.1 35) N0 i) (zCpy (σ.2.2.1 37) V0 i)) (vp_updL (zCpy (σ.2.2.2.1 35) N0 i) (Int32.ofNat i).toNatClampNeg (σ.2.2.2.1 35 (Int32.ofNat i).toNatClampNeg)) (upd (zCpy (σ.2.2.1 37) V0 i) (Int32.ofNat i).toNatClampNeg (σ.2.2.1 37 (Int32.ofNat i).toNatClampNeg)))) = some r := hx
      rw [yNV_2, hn, zCpy_s, zCpy_sL, ← zOfS] at hx
      exact ih m' (by omega) (i + 1) (by omega) (Or.inr (by omega)) hx
theorem z8_e (h0 : zC0 c0) {d n m : Nat} {r : mO × mH} {τ : zS} {k a x : Int32} (hx : zF v5 d n 8 m 85 [(2, .int a), (3, .int x), (1, .int k), (0, .ref 183)] [] (zH c0 τ) = some r) : (¬ yB τ = 0 ∧ r = zOut c0 (.inl (some (.int 0))) (zI (zI τ 25 20 k) 25 0 1)) ∨ (yB τ = 0 ∧ r = zOut c0 (.inl (some (.int (τ.1 25 25)))) (yDone τ)) := by
  replace hx := zTr (C := nC8) (tb := [(37, sp37)]) h0 rfl rfl ⟨z37 h0, trivial⟩ (fun pc => pc.beq 114) 60 hx
  rcases hx with ⟨h1, hx⟩ | ⟨h1, hx⟩
  · have h1 : yB τ = 0 := cEqT h1
    rcases hx with ⟨h2, m1, hm1, hx⟩ | ⟨h2, -⟩
    · refine Or.inr ⟨h1, ?_⟩
      obtain ⟨m2, hm2, hx⟩ := zTr (C := nC8) (tb := []) h0 rfl rfl trivial (fun pc => pc.beq 116) 60 hx
      have hx : zF v5 d n 8 m2 116 [(3, .int (Int32.ofNat 0)), (2, .int a), (1, .int k), (0, .ref 183)] [] (zH c0 (zI τ 25 20 (-1))) = some r := hx
      rw [← zA_self (zI τ 25 20 (-1)) 26, ← yMw_0 ((zI τ 25 20 (-1)).2.2.1 34) ((zI τ 25 20 (-1)).2.2.1 33) ((zI τ 25 20 (-1)).2.2.1 26)] at hx
      obtain ⟨m3, y, hx⟩ := z8_m h0 m2 0 (by omega) hx
      obtain ⟨m4, hm4, hx⟩ := zTr (C := nC8) (tb := []) h0 rfl rfl trivial (fun pc => pc.beq 160) 60 hx
      have hx : zF v5 d n 8 m4 160 [(3, .int (Int32.ofNat 0)), (2, .int a), (1, .int k), (0, .ref 183)] [] (zH c0 (yDn1 τ)) = some r := hx
      rw [← yNV_self (yDn1 τ), ← zCpy_0 ((yDn1 τ).2.2.2.1 35) ((yDn1 τ).2.2.2.1 45), ← zCpy_0 ((yDn1 τ).2.2.1 37) ((yDn1 τ).2.2.1 46)] at hx
      obtain ⟨m5, y, hx⟩ := z8_s h0 m4 0 (by omega) (Or.inl rfl) hx
      exact zTr (C := nC8) (tb := []) h0 rfl rfl trivial (fun _ => false) 60 hx
    · exact absurd h1 (cEqF h2)
  · have h1 : ¬ yB τ = 0 := cEqF h1
    rcases hx with ⟨h2, -⟩ | ⟨h2, _, _, ⟨rfl, rfl⟩, hx⟩
    · exact absurd (cEqT h2) h1
    · exact Or.inl ⟨h1, hx⟩
end RF
