/-! W -/
/-- a field in brackets, or the whole word -/
def sFld (E : Int32 → Option (Int64 × Int32)) (T : Nat → Int32) (e p : Int32) : Option (Int64 × Int32) := if p < e ∧ T p.toNatClampNeg = 40 then (match E (p + 1) with
  | none => none
  | some y => if zFld y.1 ∧ y.2 < e ∧ T y.2.toNatClampNeg = 41 then some (y.1, y.2 + 1) else none) else some (5, p)
def sWF (E : Int32 → Option (Int64 × Int32)) (T : Nat → Int32) (e : Int32) : Nat → Int32 → Int32 → Option (Int32 × Int32)
  | 0, w, p => some (w, p)
  | k + 1, w, p => match E p with
    | none => none
    | some x => match sFld E T e x.2 with
      | none => none
      | some f => if f.2 < e ∧ T f.2.toNatClampNeg = 44 then sWF E T e k (zSto w f.1.toInt32 (zOfL x.1)) (f.2 + 1) else some (zSto w f.1.toInt32 (zOfL x.1), f.2)
abbrev xE (σ : zS) (p : Int32) : Option (Int64 × Int32) := sExpr (xA σ) (sLoopF (xA σ) (xT σ) (xPe σ) 240) (xT σ) (xPe σ) p
abbrev xW (σ : zS) : Option (Int32 × Int32) := sWF (xE σ) (xT σ) (xPe σ) 240 0 (xAt σ)
abbrev zWx (σ : zS) (x : Option (Int32 × Int32)) : zCs := fun o σ' => (x = none ∧ o = .inr 0 ∧ ∃ q nm ln cp nu, zX (zTs σ q nm ln cp nu) 0 = σ') ∨ (∃ v q, x = some (v, q) ∧ o = .inl (some (.int v)) ∧ ∃ nm ln cp nu, zTs σ q nm ln cp nu = σ')
abbrev sp134 (as : List Value) (σ : zS) : Option zCs := match as with
  | [.ref 169] => some (zWx σ (xW σ))
  | _ => none
theorem zWx_2 {σ : zS} {q0 : Int32} {nm0 : Int64} {ln0 cp0 nu0 : Int32} {x : Option (Int32 × Int32)} {o : zO} {σ' : zS} (h : zWx (zTs σ q0 nm0 ln0 cp0 nu0) x o σ') : zWx σ x o σ' := by
  rcases h with ⟨h1, h2, q, nm, ln, cp, nu, rfl⟩ | ⟨v, q, h1, h2, nm, ln, cp, nu, rfl⟩
  · exact Or.inl ⟨h1, h2, q, nm, ln, cp, nu, by rw [zTs_zTs]⟩
  · exact Or.inr ⟨v, q, h1, h2, nm, ln, cp, nu, by rw [zTs_zTs]⟩
section AT
variable {c0 : mH} {v5 : Value}
theorem z134_t (h0 : zC0 c0) {d n0 m1 k : Nat} {r : mO × mH} {i w : Int32} {x : Int64} {σ : zS} (ih : ∀ m', m' < m1 → ∀ (i w vl : Int32) (f : Int64) (σ : zS), i.toInt + k = 240 → zF v5 d n0 134 m' 6 [(3, .int i), (2, .int 1), (1, .int w), (5, .long f), (4, .int vl), (0, .ref 169)] [] (zH c0 σ) = some r → ∃ o σ', zWx σ (sWF (xE σ) (xT σ) (xPe σ) k w (xAt σ)) o σ' ∧ r = zOut c0 o σ') (h1 : i.toInt < 240) (hi : i.toInt + (k + 1 : Nat) = 240) (f : Int64) (q : Int32) (nm : Int64) (ln cp nu : Int32) (hx : zF v5 d n0 134 m1 80 [(5, .long f), (4, .int (zOfL x)), (3, .int i), (2, .int 1), (1, .int w), (0, .ref 169)] [] (zH c0 (zTs σ q nm ln cp nu)) = some r) : ∃ o σ', zWx σ (if q < xPe σ ∧ xT σ q.toNatClampNeg = 44 then sWF (xE σ) (xT σ) (xPe σ) k (zSto w f.toInt32 (zOfL x)) (q + 1) else some (zSto w f.toInt32 (zOfL x), q)) o σ' ∧ r = zOut c0 o σ' := by
  replace hx := zTr (C := nC134) (tb := [(131, sp131), (127, sp127)]) h0 rfl rfl ⟨z131 h0, z127 h0, trivial⟩ (fun pc => pc.beq 6) 80 hx
  obtain ⟨_, _, ⟨rfl, rfl⟩, _, _, ⟨h2, rfl, rfl⟩ | ⟨h2, rfl, rfl⟩, m', hm, hx⟩ := hx
  · rw [if_neg (show ¬ (q < xPe σ ∧ xT σ q.toNatClampNeg = 44) from h2)]
    have hx : zF v5 d n0 134 m' 6 [(3, .int (i + 1)), (2, .int 0), (1, .int (zSto w f.toInt32 (zOfL x))), (5, .long f), (4, .int (zOfL x)), (0, .ref 169)] [] (zH c0 (zTs σ q nm ln cp nu)) = some r := hx
    replace hx := zTr (C := nC134) (tb := []) h0 rfl rfl trivial (fun pc => false) 80 hx
    rcases hx with ⟨h3, hx⟩ | ⟨h3, ⟨-, hx⟩ | ⟨h, -⟩⟩
    · exact ⟨_, _, Or.inr ⟨_, _, rfl, rfl, _, _, _, _, rfl⟩, hx⟩
    · exact ⟨_, _, Or.inr ⟨_, _, rfl, rfl, _, _, _, _, rfl⟩, hx⟩
    · exact absurd rfl (cEqF h)
  · rw [if_pos (show q < xPe σ ∧ xT σ q.toNatClampNeg = 44 from h2)]
    have hx : zF v5 d n0 134 m' 6 [(3, .int (i + 1)), (2, .int 1), (1, .int (zSto w f.toInt32 (zOfL x))), (5, .long f), (4, .int (zOfL x)), (0, .ref 169)] [] (zH c0 (zI (zTs σ q nm ln cp nu) 9 2 (q + 1))) = some r := hx
    have hi1 : (i + 1).toInt = i.toInt + 1 := zInc (e := 240) (Int32.lt_iff_toInt_lt.mpr h1)
    rw [zTs_2 (zTs σ q nm ln cp nu), zTs_zTs] at hx
    obtain ⟨o, σ', h5, h6⟩ := ih m' (by omega) (i + 1) _ _ _ _ (by omega) hx
    exact ⟨o, σ', zWx_2 h5, h6⟩
theorem z134_c (h0 : zC0 c0) {d n0 m1 : Nat} {r : mO × mH} {i w : Int32} {x y : Int64} {σ : zS} {G : Int64 → Int32 → Option (Int32 × Int32)} (ht : ∀ m', m' < m1 → ∀ (f : Int64) (q : Int32) (nm : Int64) (ln cp nu : Int32), zF v5 d n0 134 m' 80 [(5, .long f), (4, .int (zOfL x)), (3, .int i), (2, .int 1), (1, .int w), (0, .ref 169)] [] (zH c0 (zTs σ q nm ln cp nu)) = some r → ∃ o σ', zWx σ (G f q) o σ' ∧ r = zOut c0 o σ') (q' : Int32) (nm' : Int64) (ln' cp' nu' : Int32) (hx : zF v5 d n0 134 m1 49 [(5, .long y), (4, .int (zOfL x)), (3, .int i), (2, .int 1), (1, .int w), (0, .ref 169)] [] (zH c0 (zTs σ q' nm' ln' cp' nu')) = some r) : ∃ o σ', zWx σ (match (if zFld y ∧ q' < xPe σ ∧ xT σ q'.toNatClampNeg = 41 then some (y, q' + 1) else none) with
    | none => none
    | some f => G f.1 f.2) o σ' ∧ r = zOut c0 o σ' := by
  replace hx := zTr (C := nC134) (tb := [(127, sp127), (192, sp192)]) h0 rfl rfl ⟨z127 h0, z192 h0, trivial⟩ (fun pc => pc.beq 80) 40 hx
  obtain ⟨_, _, ⟨h3, rfl, rfl⟩ | ⟨h3, rfl, rfl⟩, hx⟩ := hx
  · rcases hx with ⟨h, -⟩ | ⟨-, hx⟩
    · exact absurd (cEqT h) (by decide)
    · obtain ⟨_, _, ⟨h4, rfl, rfl⟩ | ⟨h4, rfl, rfl⟩, hx⟩ := hx
      · rw [if_neg (show ¬ (zFld y ∧ q' < xPe σ ∧ xT σ q'.toNatClampNeg = 41) from fun h => h4 h.2)]
        rcases hx with ⟨h, -⟩ | ⟨-, hx⟩
        · exact absurd rfl (cNeT h)
        · exact ⟨_, _, Or.inl ⟨rfl, rfl, q', nm', ln', cp', nu', rfl⟩, hx⟩
      · rw [if_pos (show zFld y ∧ q' < xPe σ ∧ xT σ q'.toNatClampNeg = 41 from ⟨h3, h4⟩)]
        rcases hx with ⟨-, m1, hm1, hx⟩ | ⟨h, -⟩
        · have hx : zF v5 d n0 134 m1 80 [(5, .long y), (4, .int (zOfL x)), (3, .int i), (2, .int 1), (1, .int w), (0, .ref 169)] [] (zH c0 (zI (zTs σ q' nm' ln' cp' nu') 9 2 (q' + 1))) = some r := hx
          rw [zTs_2 (zTs σ q' nm' ln' cp' nu'), zTs_zTs] at hx
          exact ht m1 (by omega) y (q' + 1) _ _ _ _ hx
        · exact absurd (cNeF h) (by decide)
  · rcases hx with ⟨-, hx⟩ | ⟨h, -⟩
    · rw [if_neg (show ¬ (zFld y ∧ q' < xPe σ ∧ xT σ q'.toNatClampNeg = 41) from fun h => h3 h.1)]
      exact ⟨_, _, Or.inl ⟨rfl, rfl, q', nm', ln', cp', nu', rfl⟩, hx⟩
    · exact absurd rfl (cEqF h)
theorem z134_b (h0 : zC0 c0) {d n0 m1 : Nat} {r : mO × mH} {i w : Int32} {x : Int64} {σ : zS} {G : Int64 → Int32 → Option (Int32 × Int32)} (ht : ∀ m', m' < m1 → ∀ (f : Int64) (q : Int32) (nm : Int64) (ln cp nu : Int32), zF v5 d n0 134 m' 80 [(5, .long f), (4, .int (zOfL x)), (3, .int i), (2, .int 1), (1, .int w), (0, .ref 169)] [] (zH c0 (zTs σ q nm ln cp nu)) = some r → ∃ o σ', zWx σ (G f q) o σ' ∧ r = zOut c0 o σ') (q : Int32) (nm : Int64) (ln cp nu : Int32) (hx : zF v5 d n0 134 m1 31 [(5, .long 5), (4, .int (zOfL x)), (3, .int i), (2, .int 1), (1, .int w), (0, .ref 169)] [] (zH c0 (zTs σ q nm ln cp nu)) = some r) : ∃ o σ', zWx σ (match sFld (xE σ) (xT σ) (xPe σ) q with
    | none => none
    | some f => G f.1 f.2) o σ' ∧ r = zOut c0 o σ' := by
  replace hx := zTr (C := nC134) (tb := [(189, sp189), (127, sp127), (192, sp192)]) h0 rfl rfl ⟨z189 h0, z127 h0, z192 h0, trivial⟩ (fun pc => pc.beq 80 || pc.beq 49) 40 hx
  unfold sFld
  obtain ⟨_, _, ⟨h2, rfl, rfl⟩ | ⟨h2, rfl, rfl⟩, hx⟩ := hx
  · rcases hx with ⟨-, m1, hm1, hx⟩ | ⟨h, -⟩
    · rw [if_neg (show ¬ (q < xPe σ ∧ xT σ q.toNatClampNeg = 40) from h2)]
      exact ht m1 (by omega) 5 q nm ln cp nu hx
    · exact absurd rfl (cEqF h)
  · rw [if_pos (show q < xPe σ ∧ xT σ q.toNatClampNeg = 40 from h2)]
    rcases hx with ⟨h, -⟩ | ⟨-, hx⟩
    · exact absurd (cEqT h) (by decide)
    · obtain ⟨_, _, ⟨hb, rfl, q', nm', ln', cp', nu', rfl⟩ | ⟨y, q', hb, rfl, nm', ln', cp', nu', rfl⟩, hx⟩ := hx
      · rw [show xE σ (q + 1) = none from hb]
        refine ⟨_, _, Or.inl ⟨rfl, rfl, q', nm', ln', cp', nu', ?_⟩, hx⟩
        rw [zTs_2 (zTs σ q nm ln cp nu), zTs_zTs, zTs_zTs]
      · rw [show xE σ (q + 1) = some (y, q') from hb]
        obtain ⟨m2, hm2, hx⟩ := hx
        have hx : zF v5 d n0 134 m2 49 [(5, .long y), (4, .int (zOfL x)), (3, .int i), (2, .int 1), (1, .int w), (0, .ref 169)] [] (zH c0 (zTs (zI (zTs σ q nm ln cp nu) 9 2 (q + 1)) q' nm' ln' cp' nu')) = some r := hx
        rw [zTs_2 (zTs σ q nm ln cp nu), zTs_zTs, zTs_zTs] at hx
        exact z134_c h0 (fun m' hm' => ht m' (by omega)) q' nm' ln' cp' nu' hx
theorem z134_l (h0 : zC0 c0) {d n0 : Nat} {r : mO × mH} : ∀ (m k : Nat) (i w vl : Int32) (f : Int64) (σ : zS), i.toInt + k = 240 → zF v5 d n0 134 m 6 [(3, .int i), (2, .int 1), (1, .int w), (5, .long f), (4, .int vl), (0, .ref 169)] [] (zH c0 σ) = some r → ∃ o σ', zWx σ (sWF (xE σ) (xT σ) (xPe σ) k w (xAt σ)) o σ' ∧ r = zOut c0 o σ' := by
  intro m
  induction m using Nat.strongRecOn with
  | ind m ih =>
    intro k i w vl f σ hi hx
    replace hx := zTr (C := nC134) (tb := [(189, sp189), (86, sp86)]) h0 rfl rfl ⟨z189 h0, z86 h0, trivial⟩ (fun pc => pc.beq 31) 40 hx
    have self : zTs σ (xAt σ) (σ.2.1 9 6) (σ.1 9 7) (σ.1 9 8) (σ.1 9 9) = σ := by rw [← zTs_2, zI_self]
    rcases hx with ⟨h1, hx⟩ | ⟨h1, hx⟩
    · have h1 : ¬ i.toInt < 240 := fun h' => cGeT h1 (Int32.lt_iff_toInt_lt.mpr h')
      obtain rfl : k = 0 := by omega
      exact ⟨_, _, Or.inr ⟨_, _, rfl, rfl, _, _, _, _, self⟩, hx⟩
    · have h1' : i.toInt < 240 := Int32.lt_iff_toInt_lt.mp (cGeF h1)
      obtain ⟨k, rfl⟩ : ∃ g, k = g + 1 := ⟨k - 1, by omega⟩
      unfold sWF
      rcases hx with ⟨h, -⟩ | ⟨-, hx⟩
      · exact absurd (cEqT h) (by decide)
      obtain ⟨_, _, ⟨ha, rfl, q, nm, ln, cp, nu, rfl⟩ | ⟨x, q, ha, rfl, nm, ln, cp, nu, rfl⟩, hx⟩ := hx
      · rw [show xE σ (xAt σ) = none from ha]
        exact ⟨_, _, Or.inl ⟨rfl, rfl, q, nm, ln, cp, nu, rfl⟩, hx⟩
      · rw [show xE σ (xAt σ) = some (x, q) from ha]
        obtain ⟨_, _, ⟨rfl, rfl⟩, m1, hm1, hx⟩ := hx
        exact z134_b h0 (G := fun f q => if q < xPe σ ∧ xT σ q.toNatClampNeg = 44 then sWF (xE σ) (xT σ) (xPe σ) k (zSto w f.toInt32 (zOfL x)) (q + 1) else some (zSto w f.toInt32 (zOfL x), q)) (fun m' hm' f q nm ln cp nu hx => z134_t h0 (fun m2 hm2 i' w' vl' f' σ' g1 g2 => ih m2 (by omega) k i' w' vl' f' σ' g1 g2) h1' hi f q nm ln cp nu hx) q nm ln cp nu hx
theorem z134 (h0 : zC0 c0) : zSp c0 v5 134 sp134 := by
  intro d n as σ cs r hs hx
  unfold sp134 at hs
  split at hs
  · cases hs
    obtain ⟨d', hx⟩ := zGo hx
    obtain ⟨m', hm, hx⟩ := zTr (C := nC134) (tb := []) h0 rfl rfl trivial (fun pc => pc.beq 6) 80 hx
    have hx : zF v5 d' n 134 m' 6 [(3, .int 0), (2, .int 1), (1, .int 0), (0, .ref 169)] [] (zH c0 σ) = some r := hx
    have hx := zF_lv (b := [(3, .int 0), (2, .int 1), (1, .int 0), (5, .long 0), (4, .int 0), (0, .ref 169)]) (fun q hq => by
        simp only [List.mem_cons, List.not_mem_nil, or_false] at hq
        rcases hq with rfl | rfl | rfl | rfl <;> rfl) hx
    exact z134_l h0 m' 240 0 0 0 0 σ (by decide) hx
  · cases hs
end AT
