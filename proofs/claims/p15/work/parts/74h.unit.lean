/-! THE UNITS, the reference's -/
def yTo' (b m : Int32) : Int32 := if (if m = 0 then 0 else b + m) < 0 then 0 else if 6 < (if m = 0 then 0 else b + m) then 6 else (if m = 0 then 0 else b + m)
def yCtl (τ : zS) (u m : Int32) : zS := if ¬ yS τ = 0 ∨ ¬ (u = 0 ∨ u = 2) then zI τ 25 4 1 else if u = 2 then zI τ 25 4 0 else zI (zI τ 25 4 0) 25 12 (yTo' (τ.1 25 12) m)
abbrev sp178 (as : List Value) (σ : zS) : Option zCs := match as with
  | [.ref 183, .int u, .int m] => some (zN (yCtl σ u m))
  | _ => none
/-- words of another row, one by one -/
def cp1 (M T : Nat → Int32) (a b : Int32) : Nat → Nat → Int32
  | 0 => M
  | k + 1 => upd (cp1 M T a b k) (a + Int32.ofNat k).toNatClampNeg (T (b + Int32.ofNat k).toNatClampNeg)
/-- the same from its beginning on; to its beginning -/
def cp2 (M T : Nat → Int32) (a : Int32) : Nat → Nat → Int32
  | 0 => M
  | k + 1 => upd (cp2 M T a k) (a + Int32.ofNat k).toNatClampNeg (T (Int32.ofNat k).toNatClampNeg)
def cp3 (P M : Nat → Int32) (b : Int32) : Nat → Nat → Int32
  | 0 => P
  | k + 1 => upd (cp3 P M b k) (Int32.ofNat k).toNatClampNeg (M (b + Int32.ofNat k).toNatClampNeg)
/-- cards moved up, lines moved down -/
def sh4 (C : Nat → Int32) : Nat → Nat → Int32
  | 0 => C
  | k + 1 => upd (sh4 C k) (Int32.ofNat k).toNatClampNeg (sh4 C k (Int32.ofNat k + 4).toNatClampNeg)
def dn6 (P : Nat → Int32) : Nat → Nat → Int32
  | 0 => P
  | j + 1 => upd (dn6 P j) (Int32.ofInt (47 - (j : Int))).toNatClampNeg (dn6 P j (Int32.ofInt (47 - (j : Int)) - 6).toNatClampNeg)
abbrev rdN (τ : zS) (u : Int32) : Prop := (u = 0 ∧ τ.1 25 12 < 6) ∨ (u = 1 ∧ 0 < τ.1 25 13)
abbrev wrN (τ : zS) (u : Int32) : Prop := (u = 0 ∧ τ.1 25 12 < 6) ∨ u = 2
abbrev rdK (u : Int32) : Int32 := if u = 0 then 10 else 4
abbrev wrK (u : Int32) : Int32 := if u = 0 then 10 else 6
/-- not stuck: what is read, what is written -/
def yRd0 (τ : zS) (u m : Int32) : zS := if u = 0 then zI (zA τ 26 (cp1 (qM τ) (τ.2.2.1 28) m (10 * τ.1 25 12) 10)) 25 12 (τ.1 25 12 + 1) else zA (zI (zA τ 26 (cp2 (qM τ) (τ.2.2.1 29) m 4)) 25 13 (τ.1 25 13 - 1)) 29 (sh4 (τ.2.2.1 29) (4 * (τ.1 25 13 - 1)).toNatClampNeg)
def yWr0 (τ : zS) (u m : Int32) : zS := if u = 0 then zI (zA τ 28 (cp1 (τ.2.2.1 28) (qM τ) (10 * τ.1 25 12) m 10)) 25 12 (τ.1 25 12 + 1) else zI (zA τ 30 (cp3 (dn6 (τ.2.2.1 30) 42) (qM τ) m 6)) 25 15 (τ.1 25 15 + 1)
abbrev ndr (τ : zS) (p q : Prop) [Decidable p] [Decidable q] : zS := zNd (zNd τ p) q
def yRds (τ : zS) (u m : Int32) : zS := if ¬ yS τ = 0 ∨ ¬ rdN τ u ∨ ¬ yRw m (rdK u) then ndr τ (rdN τ u) (yRw m (rdK u)) else yRd0 (ndr τ (rdN τ u) (yRw m (rdK u))) u m
abbrev sp179 (as : List Value) (σ : zS) : Option zCs := match as with
  | [.ref 183, .int u, .int m] => some (zN (yRds σ u m))
  | _ => none
def yWrs (τ : zS) (u m : Int32) : zS := if ¬ yS τ = 0 ∨ ¬ wrN τ u ∨ ¬ yRw m (wrK u) then ndr τ (wrN τ u) (yRw m (wrK u)) else yWr0 (ndr τ (wrN τ u) (yRw m (wrK u))) u m
abbrev sp180 (as : List Value) (σ : zS) : Option zCs := match as with
  | [.ref 183, .int u, .int m] => some (zN (yWrs σ u m))
  | _ => none
section RH
variable {c0 : mH} {v5 : Value}
theorem z178 (h0 : zC0 c0) : zSp c0 v5 178 sp178 := by
  intro d n as σ cs r hs hx
  unfold sp178 at hs
  split at hs
  · rename_i u m
    cases hs
    obtain ⟨d', hx⟩ := zGo hx
    refine ⟨_, _, ⟨rfl, rfl⟩, ?_⟩
    have go : ∀ (b : Int32) (m' : Nat), (b = 1 ∧ (u = 0 ∨ u = 2) ∨ b = 0 ∧ ¬ (u = 0 ∨ u = 2)) → zF v5 d' n 178 m' 18 [(0, .ref 183), (1, .int u), (2, .int m)] [] (zH c0 (zNd σ (¬ b = 0))) = some r → r = zOut c0 (.inl none) (yCtl σ u m) := by
      intro b m' hb hx
      unfold yCtl
      by_cases hq : ¬ yS σ = 0 ∨ ¬ (u = 0 ∨ u = 2)
      · rw [if_pos hq]
        rw [zNd_1 (hq.elim .inl (fun e => .inr (fun w => by
          rcases hb with ⟨_, e2⟩ | ⟨e2, _⟩
          · exact e e2
          · exact w e2)))] at hx
        replace hx := zTr (C := nC178) (tb := []) h0 rfl rfl trivial (fun pc => pc.beq 25) 60 hx
        rcases hx with ⟨h1, hx⟩ | ⟨h1, m2, hm, hx⟩
        · exact hx
        · exact absurd (show (1 : Int32) = 0 from cNeF h1) (by decide)
      · rw [if_neg hq]
        have hg : u = 0 ∨ u = 2 := Decidable.not_not.mp (fun e => hq (.inr e))
        have hb1 : b = 1 := by
          rcases hb with ⟨e, _⟩ | ⟨_, e⟩
          · exact e
          · exact absurd hg e
        subst hb1
        rw [zNd_0 (fun w => w.elim (fun e => hq (.inl e)) (fun e => e (by decide)))] at hx
        replace hx := zTr (C := nC178) (tb := []) h0 rfl rfl trivial (fun pc => pc.beq 46) 60 hx
        have fin : ∀ (m2 : Nat) (t : Int32), t = (if m = 0 then 0 else σ.1 25 12 + m) → zF v5 d' n 178 m2 46 [(3, .int t), (0, .ref 183), (1, .int u), (2, .int m)] [] (zH c0 (zI σ 25 4 0)) = some r → r = zOut c0 (.inl none) (zI (zI σ 25 4 0) 25 12 (yTo' (σ.1 25 12) m)) := by
          intro m2 t ht hx
          unfold yTo'
          rw [← ht]
          replace hx := zTr (C := nC178) (tb := []) h0 rfl rfl trivial (fun _ => false) 60 hx
          rcases hx with ⟨h1, ⟨h2, hx⟩ | ⟨h2, hx⟩⟩ | ⟨h1, hx⟩
          · rw [if_neg (cGeT h1), if_neg (show ¬ 6 < t from cLeT h2)]; exact hx
          · rw [if_neg (cGeT h1), if_pos (show 6 < t from cLeF h2)]; exact hx
          · rw [if_pos (cGeF h1)]; exact hx
        rcases hx with ⟨h1, hx⟩ | ⟨h1, ⟨h2, ⟨h3, m2, hm, hx⟩ | ⟨h3, m2, hm, hx⟩⟩ | ⟨h2, hx⟩⟩
        · exact absurd rfl (cNeT h1)
        · rw [if_neg (show ¬ u = 2 from cNeT h2)]
          exact fin m2 _ (if_neg (cNeT h3)).symm hx
        · rw [if_neg (show ¬ u = 2 from cNeT h2)]
          exact fin m2 _ (if_pos (cNeF h3)).symm hx
        · rw [if_pos (show u = 2 from cNeF h2)]
          exact hx
    replace hx := zTr (C := nC178) (tb := [(113, sp113)]) h0 rfl rfl ⟨z113 h0, trivial⟩ (fun pc => pc.beq 18) 60 hx
    rcases hx with ⟨h1, _, _, ⟨rfl, rfl⟩, m', hm, hx⟩ | ⟨h1, ⟨h2, _, _, ⟨rfl, rfl⟩, m', hm, hx⟩ | ⟨h2, _, _, ⟨rfl, rfl⟩, m', hm, hx⟩⟩
    · exact go 1 m' (.inl ⟨rfl, .inl (cEqT h1)⟩) hx
    · exact go 0 m' (.inr ⟨rfl, fun q => q.elim (cEqF h1) (cNeT h2)⟩) hx
    · exact go 1 m' (.inl ⟨rfl, .inr (cNeF h2)⟩) hx
  · cases hs
theorem zI_back (σ : zS) (a b : Int32) : zI (zI σ 25 4 a) 25 4 b = zI σ 25 4 b := zI_zI 25 4 a b
/-- reading: not stuck -/
theorem z179_g (h0 : zC0 c0) {d n : Nat} {r : mO × mH} {τ : zS} {u m : Int32} {m' : Nat} (hx : zF v5 d n 179 m' 60 [(0, .ref 183), (1, .int u), (2, .int m)] [] (zH c0 τ) = some r) : r = zOut c0 (.inl none) (yRd0 τ u m) := by
  have tp : ∀ (M k : Nat), k ≤ 10 → ∀ (m1 : Nat), m1 ≤ M → zF v5 d n 179 m1 66 [(3, .int (Int32.ofNat k)), (0, .ref 183), (1, .int u), (2, .int m)] [] (zH c0 (zA τ 26 (cp1 (qM τ) (τ.2.2.1 28) m (10 * τ.1 25 12) k))) = some r → r = zOut c0 (.inl none) (zI (zA τ 26 (cp1 (qM τ) (τ.2.2.1 28) m (10 * τ.1 25 12) 10)) 25 12 (τ.1 25 12 + 1)) := by
    intro M
    induction M with
    | zero =>
      intro k hk m1 hm1 hx
      have : m1 = 0 := by omega
      subst this
      cases hx
    | succ M ih =>
      intro k hk m1 hm1 hx
      have hkI := zOfI (n := k) (by omega)
      replace hx := zTr (C := nC179) (tb := []) h0 rfl rfl trivial (fun pc => pc.beq 66) 60 hx
      rcases hx with ⟨h1, hx⟩ | ⟨h1, _, _, m2, hm, hx⟩
      · have : k = 10 := by
          have := fun q => cGeT h1 (Int32.lt_iff_toInt_lt.mpr q)
          rw [hkI] at this
          have : ¬ (k : Int) < 10 := this
          omega
        subst this
        exact hx
      · have h1 := Int32.lt_iff_toInt_lt.mp (cGeF h1)
        rw [hkI] at h1
        have h1 : (k : Int) < 10 := h1
        rw [zA_zA] at hx
        refine ih (k + 1) (by omega) m2 (by omega) ?_
        rw [zOfS]
        exact hx
  have c4 : ∀ (M k : Nat), k ≤ 4 → ∀ (m1 : Nat), m1 ≤ M → zF v5 d n 179 m1 115 [(3, .int (Int32.ofNat k)), (0, .ref 183), (1, .int u), (2, .int m)] [] (zH c0 (zA τ 26 (cp2 (qM τ) (τ.2.2.1 29) m k))) = some r → ∃ m2, zF v5 d n 179 m2 152 [(3, .int (Int32.ofNat 0)), (0, .ref 183), (1, .int u), (2, .int m)] [] (zH c0 (zI (zA τ 26 (cp2 (qM τ) (τ.2.2.1 29) m 4)) 25 13 (τ.1 25 13 - 1))) = some r := by
    intro M
    induction M with
    | zero =>
      intro k hk m1 hm1 hx
      have : m1 = 0 := by omega
      subst this
      cases hx
    | succ M ih =>
      intro k hk m1 hm1 hx
      have hkI := zOfI (n := k) (by omega)
      replace hx := zTr (C := nC179) (tb := []) h0 rfl rfl trivial (fun pc => pc.beq 115 || pc.beq 152) 60 hx
      rcases hx with ⟨h1, m2, hm, hx⟩ | ⟨h1, _, _, m2, hm, hx⟩
      · have : k = 4 := by
          have := fun q => cGeT h1 (Int32.lt_iff_toInt_lt.mpr q)
          rw [hkI] at this
          have : ¬ (k : Int) < 4 := this
          omega
        subst this
        exact ⟨m2, hx⟩
      · have h1 := Int32.lt_iff_toInt_lt.mp (cGeF h1)
        rw [hkI] at h1
        have h1 : (k : Int) < 4 := h1
        rw [zA_zA] at hx
        refine ih (k + 1) (by omega) m2 (by omega) ?_
        rw [zOfS]
        exact hx
  have s4 : ∀ (υ : zS), υ.1 25 13 = τ.1 25 13 - 1 → ∀ (M k : Nat), ((k : Int) ≤ (4 * (τ.1 25 13 - 1)).toInt ∨ k = 0) → ∀ (m1 : Nat), m1 ≤ M → zF v5 d n 179 m1 152 [(3, .int (Int32.ofNat k)), (0, .ref 183), (1, .int u), (2, .int m)] [] (zH c0 (zA υ 29 (sh4 (τ.2.2.1 29) k))) = some r → r = zOut c0 (.inl none) (zA υ 29 (sh4 (τ.2.2.1 29) (4 * (τ.1 25 13 - 1)).toNatClampNeg)) := by
    intro υ e1 M
    induction M with
    | zero =>
      intro k hk m1 hm1 hx
      have : m1 = 0 := by omega
      subst this
      cases hx
    | succ M ih =>
      intro k hk m1 hm1 hx
      have hkI : (Int32.ofNat k).toInt = k := Int32.toInt_ofNat_of_lt (by have := Int32.toInt_lt (4 * (τ.1 25 13 - 1)); rcases hk with hk | hk <;> omega)
      replace hx := zTr (C := nC179) (tb := []) h0 rfl rfl trivial (fun pc => pc.beq 152) 60 hx
      rcases hx with ⟨h1, hx⟩ | ⟨h1, _, _, m2, hm, hx⟩
      · have h1 := fun q => cGeT h1 (Int32.lt_iff_toInt_lt.mpr q)
        rw [hkI] at h1
        have h1 : ¬ (k : Int) < (4 * υ.1 25 13).toInt := h1
        rw [e1] at h1
        have e3 : (4 * (τ.1 25 13 - 1)).toNatClampNeg = k := by
          show (4 * (τ.1 25 13 - 1)).toInt.toNat = k
          omega
        rw [e3]
        exact hx
      · have h1 := Int32.lt_iff_toInt_lt.mp (cGeF h1)
        rw [hkI] at h1
        have h1 : (k : Int) < (4 * υ.1 25 13).toInt := h1
        rw [e1] at h1
        rw [zA_zA] at hx
        refine ih (k + 1) (.inl (by omega)) m2 (by omega) ?_
        rw [zOfS]
        exact hx
  replace hx := zTr (C := nC179) (tb := []) h0 rfl rfl trivial (fun pc => pc.beq 66 || pc.beq 115) 60 hx
  unfold yRd0
  rcases hx with ⟨h1, m2, hm, hx⟩ | ⟨h1, m2, hm, hx⟩
  · rw [if_neg (cNeT h1)]
    have hx' := hx
    rw [← zA_self τ 26] at hx'
    obtain ⟨m3, hx3⟩ := c4 m2 0 (by omega) m2 (Nat.le_refl _) hx'
    have hx4 := hx3
    rw [← zA_self (zI (zA τ 26 (cp2 (qM τ) (τ.2.2.1 29) m 4)) 25 13 (τ.1 25 13 - 1)) 29] at hx4
    exact s4 (zI (zA τ 26 (cp2 (qM τ) (τ.2.2.1 29) m 4)) 25 13 (τ.1 25 13 - 1)) rfl m3 0 (.inr rfl) m3 (Nat.le_refl _) hx4
  · rw [if_pos (cNeF h1)]
    have hx' := hx
    rw [← zA_self τ 26] at hx'
    exact tp m2 0 (by omega) m2 (Nat.le_refl _) hx'
/-- writing: not stuck -/
theorem z180_g (h0 : zC0 c0) {d n : Nat} {r : mO × mH} {τ : zS} {u m : Int32} {m' : Nat} (hx : zF v5 d n 180 m' 54 [(0, .ref 183), (1, .int u), (2, .int m)] [] (zH c0 τ) = some r) : r = zOut c0 (.inl none) (yWr0 τ u m) := by
  have tp : ∀ (M k : Nat), k ≤ 10 → ∀ (m1 : Nat), m1 ≤ M → zF v5 d n 180 m1 60 [(3, .int (Int32.ofNat k)), (0, .ref 183), (1, .int u), (2, .int m)] [] (zH c0 (zA τ 28 (cp1 (τ.2.2.1 28) (qM τ) (10 * τ.1 25 12) m k))) = some r → r = zOut c0 (.inl none) (zI (zA τ 28 (cp1 (τ.2.2.1 28) (qM τ) (10 * τ.1 25 12) m 10)) 25 12 (τ.1 25 12 + 1)) := by
    intro M
    induction M with
    | zero =>
      intro k hk m1 hm1 hx
      have : m1 = 0 := by omega
      subst this
      cases hx
    | succ M ih =>
      intro k hk m1 hm1 hx
      have hkI := zOfI (n := k) (by omega)
      replace hx := zTr (C := nC180) (tb := []) h0 rfl rfl trivial (fun pc => pc.beq 60) 60 hx
      rcases hx with ⟨h1, hx⟩ | ⟨h1, _, _, m2, hm, hx⟩
      · have : k = 10 := by
          have := fun q => cGeT h1 (Int32.lt_iff_toInt_lt.mpr q)
          rw [hkI] at this
          have : ¬ (k : Int) < 10 := this
          omega
        subst this
        exact hx
      · have h1 := Int32.lt_iff_toInt_lt.mp (cGeF h1)
        rw [hkI] at h1
        have h1 : (k : Int) < 10 := h1
        rw [zA_zA] at hx
        refine ih (k + 1) (by omega) m2 (by omega) ?_
        rw [zOfS]
        exact hx
  have dn : ∀ (M j : Nat), j ≤ 42 → ∀ (m1 : Nat), m1 ≤ M → zF v5 d n 180 m1 110 [(3, .int (Int32.ofInt (47 - (j : Int)))), (0, .ref 183), (1, .int u), (2, .int m)] [] (zH c0 (zA τ 30 (dn6 (τ.2.2.1 30) j))) = some r → ∃ m2, zF v5 d n 180 m2 138 [(3, .int (Int32.ofNat 0)), (0, .ref 183), (1, .int u), (2, .int m)] [] (zH c0 (zA τ 30 (dn6 (τ.2.2.1 30) 42))) = some r := by
    intro M
    induction M with
    | zero =>
      intro j hj m1 hm1 hx
      have : m1 = 0 := by omega
      subst this
      cases hx
    | succ M ih =>
      intro j hj m1 hm1 hx
      have hjI : (Int32.ofInt (47 - (j : Int))).toInt = 47 - j := rInt (by unfold rI0; omega) (by unfold rI1; omega)
      replace hx := zTr (C := nC180) (tb := []) h0 rfl rfl trivial (fun pc => pc.beq 110 || pc.beq 138) 60 hx
      rcases hx with ⟨h1, m2, hm, hx⟩ | ⟨h1, _, _, m2, hm, hx⟩
      · have : j = 42 := by
          have := fun q => cLeT h1 (Int32.lt_iff_toInt_lt.mpr q)
          rw [hjI] at this
          have : ¬ (5 : Int) < 47 - j := this
          omega
        subst this
        exact ⟨m2, hx⟩
      · have h1 := Int32.lt_iff_toInt_lt.mp (cLeF h1)
        rw [hjI] at h1
        have h1 : (5 : Int) < 47 - j := h1
        rw [zA_zA] at hx
        have e : Int32.ofInt (47 - (j : Int)) + Int32.ofInt (-1) = Int32.ofInt (47 - ((j + 1 : Nat) : Int)) := by
          rw [← Int32.ofInt_add]
          congr 1
          omega
        rw [e] at hx
        exact ih (j + 1) (by omega) m2 (by omega) hx
  have c6 : ∀ (M k : Nat), k ≤ 6 → ∀ (m1 : Nat), m1 ≤ M → zF v5 d n 180 m1 138 [(3, .int (Int32.ofNat k)), (0, .ref 183), (1, .int u), (2, .int m)] [] (zH c0 (zA τ 30 (cp3 (dn6 (τ.2.2.1 30) 42) (qM τ) m k))) = some r → r = zOut c0 (.inl none) (zI (zA τ 30 (cp3 (dn6 (τ.2.2.1 30) 42) (qM τ) m 6)) 25 15 (τ.1 25 15 + 1)) := by
    intro M
    induction M with
    | zero =>
      intro k hk m1 hm1 hx
      have : m1 = 0 := by omega
      subst this
      cases hx
    | succ M ih =>
      intro k hk m1 hm1 hx
      have hkI := zOfI (n := k) (by omega)
      replace hx := zTr (C := nC180) (tb := []) h0 rfl rfl trivial (fun pc => pc.beq 138) 60 hx
      rcases hx with ⟨h1, hx⟩ | ⟨h1, _, _, m2, hm, hx⟩
      · have : k = 6 := by
          have := fun q => cGeT h1 (Int32.lt_iff_toInt_lt.mpr q)
          rw [hkI] at this
          have : ¬ (k : Int) < 6 := this
          omega
        subst this
        exact hx
      · have h1 := Int32.lt_iff_toInt_lt.mp (cGeF h1)
        rw [hkI] at h1
        have h1 : (k : Int) < 6 := h1
        rw [zA_zA] at hx
        refine ih (k + 1) (by omega) m2 (by omega) ?_
        rw [zOfS]
        exact hx
  replace hx := zTr (C := nC180) (tb := []) h0 rfl rfl trivial (fun pc => pc.beq 60 || pc.beq 110) 60 hx
  unfold yWr0
  rcases hx with ⟨h1, m2, hm, hx⟩ | ⟨h1, m2, hm, hx⟩
  · rw [if_neg (cNeT h1)]
    have hx' := hx
    rw [← zA_self τ 30] at hx'
    obtain ⟨m3, hx3⟩ := dn m2 0 (by omega) m2 (Nat.le_refl _) hx'
    exact c6 m3 0 (by omega) m3 (Nat.le_refl _) hx3
  · rw [if_pos (cNeF h1)]
    have hx' := hx
    rw [← zA_self τ 28] at hx'
    exact tp m2 0 (by omega) m2 (Nat.le_refl _) hx'
end RH
