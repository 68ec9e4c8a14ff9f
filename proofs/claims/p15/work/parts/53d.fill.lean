/-! WHAT WAITS IS FILLED IN -/
def zFill (tg vl cur : Int32) (ln P : Nat → Int32) : Nat → Nat → (Nat → Int32) → (Nat → Int32) → Option ((Nat → Int32) × (Nat → Int32))
  | 0, _, W, G => some (W, G)
  | k + 1, i, W, G => if G i = tg ∧ ¬ ln i = cur then (if zMag vl < 4096 then zFill tg vl cur ln P k (i + 1) (upd W (P i).toNatClampNeg (zSto (W (P i).toNatClampNeg) 2 vl)) (upd G i (-1)) else none) else zFill tg vl cur ln P k (i + 1) W G
abbrev xWc (σ : zS) : Int32 := σ.1 18 3
abbrev zWG (σ : zS) (W G : Nat → Int32) : zS := zA (zA σ 22 W) 19 G
abbrev xFill (σ : zS) (tg vl : Int32) : Option ((Nat → Int32) × (Nat → Int32)) := zFill tg vl (σ.1 11 11) (σ.2.2.1 21) (σ.2.2.1 20) (xWc σ).toInt.toNat 0 (σ.2.2.1 22) (σ.2.2.1 19)
abbrev sp91 (as : List Value) (σ : zS) : Option zCs := match as with
  | [.ref 169, .int tg, .int vl] => some (fun o σ' => (xFill σ tg vl = none ∧ zFl σ o σ') ∨ (∃ W G, xFill σ tg vl = some (W, G) ∧ zN (zWG σ W G) o σ'))
  | _ => none
theorem u1_4 {α : Type} (f : Nat → α) (a b a' b' : α) : u1 (u1 (u1 (u1 f 22 a) 19 b) 22 a') 19 b' = u1 (u1 f 22 a') 19 b' := by
  funext k
  unfold u1
  cases k.beq 22 <;> cases k.beq 19 <;> rfl
theorem zWG_WG (σ : zS) (W G W' G' : Nat → Int32) : zWG (zWG σ W G) W' G' = zWG σ W' G' := by
  unfold zWG zA
  dsimp only
  rw [u1_4]
theorem u1_self {α : Type} (f : Nat → α) (k : Nat) : u1 f k (f k) = f := by
  funext a
  by_cases h : a = k
  · subst h; exact u1_eq _ _ _
  · exact u1_ne _ _ h
theorem zWG_self (σ : zS) : zWG σ (σ.2.2.1 22) (σ.2.2.1 19) = σ := by
  unfold zWG zA
  dsimp only
  rw [u1_self]
  have e : u1 σ.2.2.1 19 (σ.2.2.1 19) = σ.2.2.1 := u1_self _ _
  rw [e]
theorem zOfN {i : Int32} (h : 0 ≤ i.toInt) : Int32.ofNat i.toNatClampNeg = i := by
  apply Int32.toInt_inj.mp
  have h1 := i.toInt_lt
  have e : i.toNatClampNeg = i.toInt.toNat := rfl
  rw [e, Int32.toInt_ofNat_of_lt (by omega)]
  omega
section FI
variable {c0 : mH} {v5 : Value}
theorem z91_l (h0 : zC0 c0) {d n : Nat} {r : mO × mH} {σ : zS} {tg vl : Int32} : ∀ (m i : Nat) (W G : Nat → Int32) (b a : Int32), i ≤ 60 → zF v5 d n 91 m 2 [(3, .int (Int32.ofNat i)), (5, .int a), (4, .int b), (0, .ref 169), (1, .int tg), (2, .int vl)] [] (zH c0 (zWG σ W G)) = some r → ∃ o σ', ((zFill tg vl (σ.1 11 11) (σ.2.2.1 21) (σ.2.2.1 20) ((xWc σ).toInt - i).toNat i W G = none ∧ zFl σ o σ') ∨ (∃ W' G', zFill tg vl (σ.1 11 11) (σ.2.2.1 21) (σ.2.2.1 20) ((xWc σ).toInt - i).toNat i W G = some (W', G') ∧ zN (zWG σ W' G') o σ')) ∧ r = zOut c0 o σ' := by
  intro m
  induction m using Nat.strongRecOn with
  | ind m ih =>
    intro i W G b a hi hx
    have hI : (Int32.ofNat i).toInt = i := zOfI (by omega)
    replace hx := zTr (C := nC91) (tb := [(138, sp138), (131, sp131)]) h0 rfl rfl ⟨z138 h0, z131 h0, trivial⟩ (fun pc => pc.beq 2 || pc.beq 47) 80 hx
    have hn : (Int32.ofNat i).toNatClampNeg = i := by
      have e : (Int32.ofNat i).toNatClampNeg = (Int32.ofNat i).toInt.toNat := rfl
      rw [e, hI]
      omega
    rcases hx with ⟨h1, hx⟩ | ⟨h1, h2, hx⟩
    · have h1 : ¬ (i : Int) < (xWc σ).toInt := fun h' => cGeT h1 (Int32.lt_iff_toInt_lt.mpr (by rw [hI]; exact h'))
      rw [show ((xWc σ).toInt - i).toNat = 0 by omega]
      exact ⟨_, _, Or.inr ⟨W, G, rfl, rfl, rfl⟩, hx⟩
    · have h1 : (i : Int) < (xWc σ).toInt := by
        have := Int32.lt_iff_toInt_lt.mp (cGeF h1)
        rw [hI] at this
        exact this
      have h2 := zIn h2
      rw [hI] at h2
      have hk : ((xWc σ).toInt - i).toNat = ((xWc σ).toInt - (i + 1 : Nat)).toNat + 1 := by omega
      rw [hk]
      have cont : ∀ (m' : Nat) (W' G' : Nat → Int32) (lv : mL), m' < m → (∃ b' a', rSubl lv [(3, .int (Int32.ofNat (i + 1))), (5, .int a'), (4, .int b'), (0, .ref 169), (1, .int tg), (2, .int vl)]) → zF v5 d n 91 m' 2 lv [] (zH c0 (zWG σ W' G')) = some r → ∃ o σ', ((zFill tg vl (σ.1 11 11) (σ.2.2.1 21) (σ.2.2.1 20) ((xWc σ).toInt - (i + 1 : Nat)).toNat (i + 1) W' G' = none ∧ zFl σ o σ') ∨ (∃ W'' G'', zFill tg vl (σ.1 11 11) (σ.2.2.1 21) (σ.2.2.1 20) ((xWc σ).toInt - (i + 1 : Nat)).toNat (i + 1) W' G' = some (W'', G'') ∧ zN (zWG σ W'' G'') o σ')) ∧ r = zOut c0 o σ' := by
        intro m' W' G' lv hm hl hx
        obtain ⟨b', a', hl⟩ := hl
        exact ih m' hm (i + 1) W' G' b' a' (by omega) (zF_lv hl hx)
      unfold zFill
      have gi : σ.2.2.1 21 (Int32.ofNat i).toNatClampNeg = σ.2.2.1 21 i := by rw [hn]
      have not : ∀ (m1 : Nat) (hc : ¬ (G i = tg ∧ ¬ σ.2.2.1 21 i = σ.1 11 11)), m1 < m → zF v5 d n 91 m1 47 [(3, .int (Int32.ofNat i)), (5, .int a), (4, .int b), (0, .ref 169), (1, .int tg), (2, .int vl)] [.int 0] (zH c0 (zWG σ W G)) = some r → ∃ o σ', ((zFill tg vl (σ.1 11 11) (σ.2.2.1 21) (σ.2.2.1 20) ((xWc σ).toInt - (i + 1 : Nat)).toNat (i + 1) W G = none ∧ zFl σ o σ') ∨ (∃ W'' G'', zFill tg vl (σ.1 11 11) (σ.2.2.1 21) (σ.2.2.1 20) ((xWc σ).toInt - (i + 1 : Nat)).toNat (i + 1) W G = some (W'', G'') ∧ zN (zWG σ W'' G'') o σ')) ∧ r = zOut c0 o σ' := by
        intro m1 hc hm1 hx
        replace hx := zTr (C := nC91) (tb := []) h0 rfl rfl trivial (fun pc => pc.beq 2) 80 hx
        rcases hx with ⟨-, ⟨-, m', hm, hx⟩ | ⟨h, -⟩⟩ | ⟨h, -⟩
        · refine cont m' W G _ (by omega) ⟨0, a, ?_⟩ hx
          intro q hq
          have hq : q ∈ [(3, Value.int (Int32.ofNat i + 1)), (4, Value.int 0), (5, Value.int a), (0, Value.ref 169), (1, Value.int tg), (2, Value.int vl)] := hq
          simp only [List.mem_cons, List.not_mem_nil, or_false] at hq
          rcases hq with rfl | rfl | rfl | rfl | rfl | rfl
          · rw [zOfS]; rfl
          · rfl
          · rfl
          · rfl
          · rfl
          · rfl
        · exact absurd rfl (cEqF h)
        · exact absurd rfl (cEqF h)
      rcases hx with ⟨h3, m1, hm1, hx⟩ | ⟨h3, h4, ⟨h5, m1, hm1, hx⟩ | ⟨h5, m1, hm1, hx⟩⟩
      · have h3 : ¬ G (Int32.ofNat i).toNatClampNeg = tg := cNeT h3
        rw [hn] at h3
        rw [if_neg (fun h => h3 h.1)]
        exact not m1 (fun h => h3 h.1) (by omega) hx
      · have h5 : σ.2.2.1 21 (Int32.ofNat i).toNatClampNeg = σ.1 11 11 := cEqT h5
        rw [hn] at h5
        rw [if_neg (fun h => h.2 h5)]
        exact not m1 (fun h => h.2 h5) (by omega) hx
      · have h3 : G (Int32.ofNat i).toNatClampNeg = tg := cNeF h3
        have h5 : ¬ σ.2.2.1 21 (Int32.ofNat i).toNatClampNeg = σ.1 11 11 := cEqF h5
        rw [hn] at h3 h5
        rw [if_pos ⟨h3, h5⟩]
        replace hx := zTr (C := nC91) (tb := [(138, sp138), (131, sp131)]) h0 rfl rfl ⟨z138 h0, z131 h0, trivial⟩ (fun pc => pc.beq 2) 80 hx
        rcases hx with ⟨h, -⟩ | ⟨-, hx⟩
        · exact absurd (cEqT h) (by decide)
        · obtain ⟨_, _, ⟨rfl, rfl⟩, hx⟩ := hx
          rcases hx with ⟨h6, hx⟩ | ⟨h6, h7, hx⟩
          · rw [if_pos (show zMag vl < 4096 from cLtT h6)]
            rcases hx with ⟨h, -⟩ | ⟨-, hx⟩
            · exact absurd (cEqT h) (by decide)
            · obtain ⟨h7, h8, _, _, ⟨rfl, rfl⟩, h9, h10, m', hm, hx⟩ := hx
              have hx : zF v5 d n 91 m' 2 [(3, .int (Int32.ofNat i + 1)), (5, .int (σ.2.2.1 20 (Int32.ofNat i).toNatClampNeg)), (4, .int 1), (0, .ref 169), (1, .int tg), (2, .int vl)] [] (zH c0 (zWG (zWG σ W G) (upd W (σ.2.2.1 20 (Int32.ofNat i).toNatClampNeg).toNatClampNeg (zSto (W (σ.2.2.1 20 (Int32.ofNat i).toNatClampNeg).toNatClampNeg) 2 vl)) (upd G (Int32.ofNat i).toNatClampNeg (-1)))) = some r := hx
              rw [zWG_WG, hn, ← zOfS] at hx
              refine cont m' _ _ _ (by omega) ⟨1, σ.2.2.1 20 i, ?_⟩ hx
              intro q hq
              simp only [List.mem_cons, List.not_mem_nil, or_false] at hq
              rcases hq with rfl | rfl | rfl | rfl | rfl | rfl <;> rfl
          · rw [if_neg (show ¬ zMag vl < 4096 from cLtF h6)]
            exact ⟨_, _, Or.inl ⟨rfl, rfl, zFr_X (zFr_I (zFr_A (zFr_A (zFr_refl _) rfl) rfl) rfl)⟩, hx⟩
theorem z91 (h0 : zC0 c0) : zSp c0 v5 91 sp91 := by
  intro d n as σ cs r hs hx
  unfold sp91 at hs
  split at hs
  · rename_i tg vl
    cases hs
    obtain ⟨d', hx⟩ := zGo hx
    obtain ⟨m', hm, hx⟩ := zTr (C := nC91) (tb := []) h0 rfl rfl trivial (fun pc => pc.beq 2) 80 hx
    have hx : zF v5 d' n 91 m' 2 [(3, .int (Int32.ofNat 0)), (0, .ref 169), (1, .int tg), (2, .int vl)] [] (zH c0 σ) = some r := hx
    have hx := zF_lv (b := [(3, .int (Int32.ofNat 0)), (5, .int 0), (4, .int 0), (0, .ref 169), (1, .int tg), (2, .int vl)]) (fun q hq => by
        simp only [List.mem_cons, List.not_mem_nil, or_false] at hq
        rcases hq with rfl | rfl | rfl | rfl <;> rfl) hx
    rw [← zWG_self σ] at hx
    have := z91_l h0 m' 0 _ _ 0 0 (by omega) hx
    rw [show ((xWc σ).toInt - (0 : Nat)).toNat = (xWc σ).toInt.toNat by omega] at this
    exact this
  · cases hs
end FI
