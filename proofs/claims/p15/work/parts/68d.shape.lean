/-! HEAPS OF THE LAW: the state of both objects out of a heap -/
def gI (hc : mH) (k i : Nat) : Int32 := match hc[158 + k]? with
  | some (some (.inr (_, gs))) => (match gs[i]? with
    | some (.int x) => x
    | _ => 0)
  | _ => 0
def gL (hc : mH) (k i : Nat) : Int64 := match hc[158 + k]? with
  | some (some (.inr (_, gs))) => (match gs[i]? with
    | some (.long x) => x
    | _ => 0)
  | _ => 0
def gA (hc : mH) (k : Nat) : Nat → Int32 := match hc[158 + k]? with
  | some (some (.inl (_, _, .inl f))) => f
  | _ => fun _ => 0
def gB (hc : mH) (k : Nat) : Nat → Int64 := match hc[158 + k]? with
  | some (some (.inl (_, _, .inr (.inl f)))) => f
  | _ => fun _ => 0
def gQ (hc : mH) : Nat := match (hc[(169 : Nat)]? : Option mC) with
  | some (some (.inr (_, gs))) => (match (gs[(15 : Nat)]? : Option Value) with
    | some (.ref q) => q
    | _ => 0)
  | _ => 0
def zOf (hc : mH) : zS := (gI hc, gL hc, gA hc, gB hc, gQ hc, List.replicate (hc.length - 206) 4)
/-- do values fit the fields' kinds -/
def shF : List Nat → List Value → Bool
  | [], [] => true
  | 0 :: ks, .int _ :: gs => shF ks gs
  | 0 :: ks, .float _ :: gs => shF ks gs
  | 1 :: ks, .int _ :: gs => shF ks gs
  | 1 :: ks, .float _ :: gs => shF ks gs
  | 2 :: ks, .long _ :: gs => shF ks gs
  | 2 :: ks, .double _ :: gs => shF ks gs
  | 3 :: ks, .ref _ :: gs => shF ks gs
  | 3 :: ks, .retAddr _ :: gs => shF ks gs
  | (r + 4) :: ks, .ref a :: gs => decide (a = r) && shF ks gs
  | _, _ => false
def shC (k : Nat) (a : Option rC) : Bool := match zTab[k]?, a with
  | some (.inl (ci, ks)), some (some (.inr (c, gs))) => decide (c = ci) && shF ks gs
  | some (.inr (kd, n)), some (some (.inl (k', n', _, _))) => decide (k' = kd) && decide (n' = n)
  | some (.inr (kd, n)), some (some (.inr (c, _))) => (decide (c = 1000) && decide (kd = 0) && decide (n = 240)) || (decide (c = 1001) && decide (kd = 0) && decide (n = 60)) || (decide (c = 1004) && decide (kd = 1) && decide (n = 1))
  | _, _ => false
def shB (l : List rC) : Bool := (List.range 48).all (fun k => shC k (rGt l (158 + k)))
/-- values of their kinds -/
def vFit : List Nat → List Value → Prop
  | [], [] => True
  | kd :: ks, v :: gs => (match kd with
    | 0 => ∃ x, v = .int x
    | 1 => ∃ x, v = .int x
    | 2 => ∃ x, v = .long x
    | 3 => ∃ q, v = .ref q
    | r + 4 => v = .ref r) ∧ vFit ks gs
  | _, _ => False
section SH
variable {ρ : List Int} {c0 hc : mH} {h : rH}
theorem rE_fl {b : UInt32} {v : Value} (h : rE ρ (.float b) = some v) : ∃ x, v = .int x := by
  rw [rE_f] at h
  cases hq : ρ[rId b]? with
  | none => rw [hq] at h; cases h
  | some z => rw [hq] at h; cases h; exact ⟨_, rfl⟩
theorem rE_db {b : UInt64} {v : Value} (h : rE ρ (.double b) = some v) : ∃ x, v = .long x := by
  rw [rE_d] at h
  cases hq : ρ[b.toNat]? with
  | none => rw [hq] at h; cases h
  | some z => rw [hq] at h; cases h; exact ⟨_, rfl⟩
theorem rE_ra {b : Nat} {v : Value} (h : rE ρ (.retAddr b) = some v) : ∃ x, v = .ref x := by
  rw [rE_r] at h
  cases hq : ρ[b]? with
  | none => rw [hq] at h; cases h
  | some z => rw [hq] at h; cases h; exact ⟨_, rfl⟩
theorem shF_ok : ∀ (ks : List Nat) (gs g : List Value), shF ks gs = true → rEs ρ gs = some g → vFit ks g
  | [], [], g, _, hg => by cases hg; trivial
  | 0 :: ks, .int x :: gs, g, h, hg => by
    obtain ⟨v, l, h1, h2, rfl⟩ := rEs_cons hg
    cases h1
    exact ⟨⟨_, rfl⟩, shF_ok ks gs l h h2⟩
  | 0 :: ks, .float b :: gs, g, h, hg => by
    obtain ⟨v, l, h1, h2, rfl⟩ := rEs_cons hg
    exact ⟨rE_fl h1, shF_ok ks gs l h h2⟩
  | 1 :: ks, .int x :: gs, g, h, hg => by
    obtain ⟨v, l, h1, h2, rfl⟩ := rEs_cons hg
    cases h1
    exact ⟨⟨_, rfl⟩, shF_ok ks gs l h h2⟩
  | 1 :: ks, .float b :: gs, g, h, hg => by
    obtain ⟨v, l, h1, h2, rfl⟩ := rEs_cons hg
    exact ⟨rE_fl h1, shF_ok ks gs l h h2⟩
  | 2 :: ks, .long x :: gs, g, h, hg => by
    obtain ⟨v, l, h1, h2, rfl⟩ := rEs_cons hg
    cases h1
    exact ⟨⟨_, rfl⟩, shF_ok ks gs l h h2⟩
  | 2 :: ks, .double b :: gs, g, h, hg => by
    obtain ⟨v, l, h1, h2, rfl⟩ := rEs_cons hg
    exact ⟨rE_db h1, shF_ok ks gs l h h2⟩
  | 3 :: ks, .ref x :: gs, g, h, hg => by
    obtain ⟨v, l, h1, h2, rfl⟩ := rEs_cons hg
    cases h1
    exact ⟨⟨_, rfl⟩, shF_ok ks gs l h h2⟩
  | 3 :: ks, .retAddr b :: gs, g, h, hg => by
    obtain ⟨v, l, h1, h2, rfl⟩ := rEs_cons hg
    exact ⟨rE_ra h1, shF_ok ks gs l h h2⟩
  | (r + 4) :: ks, .ref a :: gs, g, h, hg => by
    obtain ⟨v, l, h1, h2, rfl⟩ := rEs_cons hg
    cases h1
    have h' : (decide (a = r) && shF ks gs) = true := h
    rw [Bool.and_eq_true, decide_eq_true_eq] at h'
    exact ⟨by show Value.ref a = Value.ref r; rw [h'.1], shF_ok ks gs l h'.2 h2⟩
/-- the fields are those of the state -/
theorem zVs_ok (σ : zS) (k : Nat) : ∀ (ks : List Nat) (g : List Value) (i : Nat), vFit ks g → (∀ (j : Nat) (x : Int32), g[j]? = some (.int x) → σ.1 k (i + j) = x) → (∀ (j : Nat) (x : Int64), g[j]? = some (.long x) → σ.2.1 k (i + j) = x) → (∀ (j q : Nat), ks[j]? = some 3 → g[j]? = some (Value.ref q) → σ.2.2.2.2.1 = q) → zVs σ k i ks = g
  | [], [], _, _, _, _, _ => rfl
  | kd :: ks, v :: gs, i, hv, h1, h2, h3 => by
    have ih := zVs_ok σ k ks gs (i + 1) hv.2 (fun j x hj => by
        have := h1 (j + 1) x (by rw [List.getElem?_cons_succ]; exact hj)
        rw [show i + 1 + j = i + (j + 1) by omega]
        exact this) (fun j x hj => by
        have := h2 (j + 1) x (by rw [List.getElem?_cons_succ]; exact hj)
        rw [show i + 1 + j = i + (j + 1) by omega]
        exact this) (fun j q hk hj => h3 (j + 1) q (by rw [List.getElem?_cons_succ]; exact hk) (by rw [List.getElem?_cons_succ]; exact hj))
    show zV σ k i kd :: zVs σ k (i + 1) ks = v :: gs
    rw [ih]
    congr 1
    have hv1 := hv.1
    match kd, hv1 with
    | 0, ⟨x, e⟩ =>
      rw [e]
      show Value.int (σ.1 k i) = _
      rw [← h1 0 x (by rw [e]; rfl)]
      rfl
    | 1, ⟨x, e⟩ =>
      rw [e]
      show Value.int (σ.1 k i) = _
      rw [← h1 0 x (by rw [e]; rfl)]
      rfl
    | 2, ⟨x, e⟩ =>
      rw [e]
      show Value.long (σ.2.1 k i) = _
      rw [← h2 0 x (by rw [e]; rfl)]
      rfl
    | 3, ⟨q, e⟩ =>
      rw [e]
      show Value.ref σ.2.2.2.2.1 = _
      rw [h3 0 q rfl (by rw [e]; rfl)]
    | r + 4, e => exact e.symm
theorem zTab3 : ∀ k : Fin 48, (match zTab[k.val]? with
  | some (.inl (_, ks)) => (List.range ks.length).all (fun j => decide (ks[j]? = some 3 → k.val = 11 ∧ j = 15))
  | _ => true) = true := by decide +kernel
theorem rOb1000 {gs : List Value} {c : mC} (h : rOb 1000 gs c) : ∃ f : Nat → Int32, c = some (.inl (0, 240, .inl f)) := by
  have h' : ∃ f : Nat → Int32, c = some (.inl (0, 240, .inl f)) ∧ rMe f gs := h
  obtain ⟨f, f1, _⟩ := h'
  exact ⟨f, f1⟩
theorem rOb1001 {gs : List Value} {c : mC} (h : rOb 1001 gs c) : ∃ f : Nat → Int32, c = some (.inl (0, 60, .inl f)) := by
  have h' : ∃ (f : Nat → Int32) (b v : Int32), gs = [.int b, .int v] ∧ c = some (.inl (0, 60, .inl f)) ∧ _ := h
  obtain ⟨f, b, v, _, f1, _⟩ := h'
  exact ⟨f, f1⟩
theorem rOb1004 {gs : List Value} {c : mC} (h : rOb 1004 gs c) : ∃ f : Nat → Int64, c = some (.inl (1, 1, .inr (.inl f))) := by
  obtain ⟨f, x, _, f1, _⟩ := rOb_4 h
  exact ⟨f, f1⟩
theorem zC_it {hc : mH} {k kd n : Nat} {f : Nat → Int32} (ht : zTab[k]? = some (.inr (kd, n))) (h1 : ¬ kd = 1) (hh : hc[158 + k]? = some (some (.inl (kd, n, .inl f)))) : zCell (zOf hc) k = some (.inl (kd, n, .inl f)) := by
  have e : gA hc k = f := by
    unfold gA
    rw [hh]
  unfold zCell
  rw [ht]
  match kd, h1 with
  | 0, _ => show (some (.inl (0, n, .inl (gA hc k))) : mC) = _; rw [e]
  | k' + 2, _ => show (some (.inl (k' + 2, n, .inl (gA hc k))) : mC) = _; rw [e]
theorem zC_lg {hc : mH} {k n : Nat} {f : Nat → Int64} (ht : zTab[k]? = some (.inr (1, n))) (hh : hc[158 + k]? = some (some (.inl (1, n, .inr (.inl f))))) : zCell (zOf hc) k = some (.inl (1, n, .inr (.inl f))) := by
  have e : gB hc k = f := by
    unfold gB
    rw [hh]
  unfold zCell
  rw [ht]
  show (some (.inl (1, n, .inr (.inl (gB hc k)))) : mC) = _
  rw [e]
theorem zTab6 : ∀ k : Fin 48, (match zTab[k.val]? with
  | some (.inr (kd, _)) => decide (kd ≤ 3)
  | _ => true) = true := by decide +kernel
theorem shape_ok (hB : shB h.1 = true) (hh : rHr c0 ρ h hc) {k : Nat} (hk : k < 48) : hc[158 + k]? = some (zCell (zOf hc) k) := by
  have hb := List.all_eq_true.mp hB k (List.mem_range.mpr hk)
  have h6 := zTab6 ⟨k, hk⟩
  have h3 := zTab3 ⟨k, hk⟩
  dsimp only at h6 h3
  unfold shC at hb
  split at hb
  · rename_i ci ks c gs ht ha
    rw [Bool.and_eq_true, decide_eq_true_eq] at hb
    have hci := zTab_cl ht
    obtain ⟨cc, c1, c2⟩ := hh.2.1 _ _ ha
    obtain ⟨g, g1, g2⟩ := c2.obj (by omega)
    have hv := shF_ok ks gs g hb.2 g1
    rw [g2] at c1
    rw [c1]
    unfold zCell
    rw [ht]
    show (some (some (.inr (c, g))) : Option mC) = some (some (.inr (ci, zVs (zOf hc) k 0 ks)))
    rw [hb.1, zVs_ok (zOf hc) k ks g 0 hv (fun j x hj => ?_) (fun j x hj => ?_) (fun j q hj hq => ?_)]
    · show gI hc k (0 + j) = x
      unfold gI
      rw [c1]
      dsimp only
      rw [Nat.zero_add, hj]
    · show gL hc k (0 + j) = x
      unfold gL
      rw [c1]
      dsimp only
      rw [Nat.zero_add, hj]
    · rw [ht] at h3
      dsimp only at h3
      have hjl : j < ks.length := (List.getElem?_eq_some_iff.mp hj).1
      have := of_decide_eq_true (List.all_eq_true.mp h3 j (List.mem_range.mpr hjl)) hj
      show gQ hc = q
      unfold gQ
      rw [this.1] at c1
      rw [c1]
      dsimp only
      rw [this.2] at hq
      rw [hq]
  · rename_i kd n k' n' l u ht ha
    rw [Bool.and_eq_true, decide_eq_true_eq, decide_eq_true_eq] at hb
    obtain ⟨rfl, rfl⟩ := hb
    rw [ht] at h6
    have h6 := of_decide_eq_true h6
    obtain ⟨cc, c1, c2⟩ := hh.2.1 _ _ ha
    by_cases e1 : k' = 1
    · subst e1
      obtain ⟨f, f1, _⟩ := rCr.lng c2
      rw [f1] at c1
      rw [c1, zC_lg ht c1]
    · obtain ⟨f, f1, _⟩ := rCr.int e1 (by omega) c2
      rw [f1] at c1
      rw [c1, zC_it ht e1 c1]
  · rename_i kd n c gs ht ha
    obtain ⟨cc, c1, g, _, g2⟩ := hh.2.1 _ _ ha
    simp only [Bool.or_eq_true, Bool.and_eq_true, decide_eq_true_eq] at hb
    rcases hb with (⟨⟨b1, b2⟩, b3⟩ | ⟨⟨b1, b2⟩, b3⟩) | ⟨⟨b1, b2⟩, b3⟩
    · subst b1 b2 b3
      obtain ⟨f, f1⟩ := rOb1000 g2
      rw [f1] at c1
      rw [c1, zC_it ht (by decide) c1]
    · subst b1 b2 b3
      obtain ⟨f, f1⟩ := rOb1001 g2
      rw [f1] at c1
      rw [c1, zC_it ht (by decide) c1]
    · subst b1 b2 b3
      obtain ⟨f, f1⟩ := rOb1004 g2
      rw [f1] at c1
      rw [c1, zC_lg ht c1]
  · cases hb
end SH
