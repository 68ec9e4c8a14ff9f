/-! ONE TURN of the law's loop -/
def nAnk : List rR := [(nTf, .inl (some (.int 1)), (nThk, rMk 9 0))]
def thkB : Bool := (List.range 206).all (fun i => (Nat.ble 155 i && Nat.blt i 158) || (match rGt nThk i with
  | some (some _) => true
  | _ => false))
set_option maxRecDepth 100000 in
theorem thkV : thkB = true := by decide +kernel
theorem thk_no {i : Nat} (hi : i < 206) (hn : rNo nThk i) : 155 ≤ i ∧ i < 158 := by
  have h := List.all_eq_true.mp thkV i (List.mem_range.mpr hi)
  rw [Bool.or_eq_true, Bool.and_eq_true] at h
  rcases h with ⟨h1, h2⟩ | h
  · exact ⟨Nat.le_of_ble_eq_true h1, Nat.le_of_ble_eq_true h2⟩
  · rcases hn with hn | hn
    · rw [hn] at h
      cases h
    · rw [hn] at h
      cases h
section TU
variable {ρ : List Int} {c0 c1 hc : mH}
theorem rHr_thk {w : Value} {f : Nat → Int32} {len : Int32} (hh : rHr c0 ρ (nTh, w) hc) (hx : xTx hc f len) (ht : okT f len) (hk : yqC hc) : rHr c0 ρ (nThk, w) hc := by
  have h1 := rHr_1 (i := 168) (a := .inl (2, 240, 0, 65535)) (rHr_ks hh hk) hx.1 (rCr.mint (by decide) (by decide) (fun j hj => by have := ht.2.2 j hj; omega))
  exact rHr_1 (i := 190) (a := .inl (0, 240, -2147483648, 2147483647)) h1 hx.2.1 (rCr.mint (by decide) (by decide) (fun j hj => by have := ht.2.2 j hj; omega))
theorem rHr_c0' {l : List rC} {w : Value} (hh : rHr c0 ρ (l, w) hc) (h0 : ∀ i, i < 206 → rNo l i → c1[i]? = c0[i]?) : rHr c1 ρ (l, w) hc := ⟨hh.1, hh.2.1, fun i hi hn => (hh.2.2.1 i hi hn).trans (h0 i hi hn).symm, hh.2.2.2⟩
theorem rHr_self {r : rH} (hh : rHr c0 ρ r hc) : rHr hc ρ r hc := ⟨hh.1, hh.2.1, fun _ _ _ => rfl, hh.2.2.2⟩
theorem ans_c0 {E : Nat → Nat → mL → List Value → mH → Option (mO × mH)} {pc : Nat} {lc : mL} {st : List Value} {hx : mH} (h : rAns c0 [] nAnk E pc lc st hx) (h0 : ∀ i, 155 ≤ i → i < 158 → c1[i]? = c0[i]?) : rAns c1 [] nAnk E pc lc st hx := by
  obtain ⟨r, r1, ex, r2, oc, hF, r3, r4, r5⟩ := h
  have hr := List.mem_singleton.mp r1
  subst hr
  exact ⟨_, List.mem_singleton.mpr rfl, ex, r2, oc, hF, r3, rHr_c0' r4 (fun i hi hn => h0 i (thk_no hi hn).1 (thk_no hi hn).2), r5⟩
/-- three old cells of which nothing is said -/
theorem old3 {l : List rC} {w : Value} (hB : oldB l = true) (hh : rHr c0 ρ (l, w) hc) : ∀ i, 155 ≤ i → i < 158 → hc[i]? = c0[i]? := by
  intro i h1 h2
  unfold oldB at hB
  rw [Bool.and_eq_true] at hB
  have hb := hB.2
  split at hb
  · rename_i e5 e6 e7
    have : i = 155 ∨ i = 156 ∨ i = 157 := by omega
    rcases this with rfl | rfl | rfl
    · exact hh.2.2.1 155 (by decide) (.inr e5)
    · exact hh.2.2.1 156 (by decide) (.inr e6)
    · exact hh.2.2.1 157 (by decide) (.inr e7)
  · cases hb
/-- one place of a loop's pattern told otherwise -/
abbrev rC1 (ρh ρ' : List Int) (g : Int) (id : Nat) (p : rPl × (Int × Int)) (z : Int) : Prop := if p.1.2.2.2.2.2.1 = 2 then (p.2.1 ≤ z ∧ ∀ j c, rCl p.2.1 = some (j, c) → ∃ y, ρ'[j]? = some y ∧ y + c ≤ z) ∧ (∃ y, ρh[id]? = some y ∧ z ≤ y + p.1.2.2.2.2.2.2 * g) else p.2.1 ≤ z ∧ z ≤ p.2.2 ∧ rCd ρ' p.2 z
theorem rPg_sw {ρh ρ' : List Int} {g : Int} {p p' : rPl × (Int × Int)} {B : List (rPl × (Int × Int))} : ∀ (A : List (rPl × (Int × Int))) (id : Nat) (zs : List Int), (∀ z, rC1 ρh ρ' g (id + A.length) p z → rC1 ρh ρ' g (id + A.length) p' z) → rPg ρh ρ' g id zs (A ++ p :: B) → rPg ρh ρ' g id zs (A ++ p' :: B) ∧ ∃ z, zs[A.length]? = some z ∧ rC1 ρh ρ' g (id + A.length) p z
  | [], id, [], _, h => h.elim
  | [], id, z :: zs, hc, h => ⟨⟨hc z h.1, h.2⟩, z, rfl, h.1⟩
  | q :: A, id, [], _, h => h.elim
  | q :: A, id, z :: zs, hc, h => by
    have e : id + 1 + A.length = id + (q :: A).length := by rw [List.length_cons]; omega
    obtain ⟨k1, y, k2, k3⟩ := rPg_sw A (id + 1) zs (fun z hz => by rw [e] at hz ⊢; exact hc z hz) h.2
    refine ⟨⟨h.1, k1⟩, y, ?_, by rw [← e]; exact k3⟩
    rw [List.length_cons, List.getElem?_cons_succ]
    exact k2
set_option maxRecDepth 100000 in
theorem po_m {ρh zs : List Int} (hO : rOk ρh nTf) (h : rPo2 (23, nT, nLpm, 8) ρh zs) : rPo2 (23, nT, nLp, 8) ρh zs ∧ (∃ y z, ρh[26]? = some y ∧ zs[18]? = some z ∧ 0 ≤ z ∧ z ≤ y) ∧ ∃ y z, ρh[47]? = some y ∧ zs[39]? = some z ∧ 0 ≤ z ∧ z ≤ y := by
  obtain ⟨h1, h2⟩ := h
  have e1 : nLpm.1.zip (nTf.drop 8) = (nLp.1.zip (nTf.drop 8)).take 18 ++ ((0, 167, 1, 0, 240, 2, 0), ((0 : Int), (240 : Int))) :: (nLpm.1.zip (nTf.drop 8)).drop 19 := by rfl
  have e2 : (nLp.1.zip (nTf.drop 8)).take 18 ++ ((0, 167, 1, 0, 240, 0, 0), ((0 : Int), (240 : Int))) :: (nLpm.1.zip (nTf.drop 8)).drop 19 = (nLp.1.zip (nTf.drop 8)).take 39 ++ ((0, 173, 2, 0, 30, 2, 0), ((0 : Int), (30 : Int))) :: (nLp.1.zip (nTf.drop 8)).drop 40 := by rfl
  have e4 : (nLp.1.zip (nTf.drop 8)).take 39 ++ ((0, 173, 2, 0, 30, 0, 0), ((0 : Int), (30 : Int))) :: (nLp.1.zip (nTf.drop 8)).drop 40 = nLp.1.zip (nTf.drop 8) := by rfl
  have e3 : ((nLp.1.zip (nTf.drop 8)).take 18).length = 18 := by rfl
  have e5 : ((nLp.1.zip (nTf.drop 8)).take 39).length = 39 := by rfl
  have h1' : rPg ρh (ρh.take 8 ++ zs) nLpm.2.2.1.2 8 zs (nLpm.1.zip (nTf.drop 8)) := h1
  rw [e1] at h1'
  obtain ⟨y, y1, y2, y3⟩ := hO.2.1 26 (0, 240) (by rfl)
  obtain ⟨x, x1, x2, x3⟩ := hO.2.1 47 (0, 30) (by rfl)
  obtain ⟨k1, z, k2, k3⟩ := rPg_sw (p' := ((0, 167, 1, 0, 240, 0, 0), (0, 240))) _ _ _ (fun z hz => by
    rw [e3] at hz ⊢
    unfold rC1 at hz ⊢
    rw [if_pos rfl] at hz
    rw [if_neg (by decide)]
    obtain ⟨⟨z1, _⟩, y', y1', y2'⟩ := hz
    rw [show 8 + 18 = 26 from rfl, y1] at y1'
    cases y1'
    dsimp only at z1 y2' y3 ⊢
    exact ⟨z1, by omega, rCd_real (by decide) (by decide) _⟩) h1'
  rw [e2] at k1
  rw [e3] at k2 k3
  unfold rC1 at k3
  rw [if_pos rfl] at k3
  obtain ⟨⟨z1, _⟩, y', y1', y2'⟩ := k3
  rw [show 8 + 18 = 26 from rfl, y1] at y1'
  cases y1'
  dsimp only at z1 y2'
  obtain ⟨m1, w, m2, m3⟩ := rPg_sw (p' := ((0, 173, 2, 0, 30, 0, 0), (0, 30))) _ _ _ (fun z hz => by
    rw [e5] at hz ⊢
    unfold rC1 at hz ⊢
    rw [if_pos rfl] at hz
    rw [if_neg (by decide)]
    obtain ⟨⟨z1, _⟩, y', y1', y2'⟩ := hz
    rw [show 8 + 39 = 47 from rfl, x1] at y1'
    cases y1'
    dsimp only at z1 y2' x3 ⊢
    exact ⟨z1, by omega, rCd_real (by decide) (by decide) _⟩) k1
  rw [e4] at m1
  rw [e5] at m2 m3
  unfold rC1 at m3
  rw [if_pos rfl] at m3
  obtain ⟨⟨w1, _⟩, y', y1', w2⟩ := m3
  rw [show 8 + 39 = 47 from rfl, x1] at y1'
  cases y1'
  dsimp only at w1 w2
  exact ⟨⟨m1, h2⟩, ⟨y, z, y1, k2, z1, by omega⟩, x, w, x1, m2, w1, by omega⟩
end TU
def nQ (ρ : List Int) (lc : mL) (hc : mH) : Prop := rRe hc ρ nT lc hc ∧ zC0 (hc.take 158) ∧ (∃ f len, xTx hc f len ∧ okT f len) ∧ yqC hc ∧ yqS hc
abbrev nA (v5 : Value) (call : Nat → List Value → mH → Option (mO × mH)) (lc : mL) (hc : mH) : Prop := rAns hc [] nAnk (WW v5 call) 23 lc [] hc
