/-! ASSEMBLE: both sides -/
section
variable {σ τ : zS} {fi : Nat}
theorem zSq_fr {R : zCs} {K : zS → zCs} {σ σ' : zS} {o : zO} (hR : ∀ o1 σ1, R o1 σ1 → zFr σ σ1) (hK : ∀ σ1 o σ', K σ1 o σ' → zFr σ1 σ') (h : zSq R K o σ') : zFr σ σ' := by
  obtain ⟨o1, σ1, h1, h2⟩ := h
  rcases h2 with ⟨_, _, h3⟩ | ⟨_, h3⟩
  · rw [← h3]
    exact hR _ _ h1
  · exact zFr_trans (hR _ _ h1) (hK _ _ _ h3)
theorem zL5_fr {σ σ' : zS} {v : Int32} {o : zO} (h : zL5 σ v o σ') : zFr σ σ' := by
  rcases h with ⟨_, h⟩ | ⟨_, h⟩
  · rw [← h.2]
    exact zFr_refl σ
  · refine zSq_fr (fun o1 σ1 k => (zFi_out k).2) (fun σ1 o σ' k => ?_) h
    rw [← k.2.2]
    exact zFr_A (zFr_refl σ1) rfl
theorem zL4_fr {σ σ' : zS} {v : Int32} {o : zO} (h : zL4 σ v o σ') : zFr σ σ' := by
  rcases h with ⟨_, h⟩ | ⟨_, o1, σ1, h1, h2⟩
  · exact zSq_fr (fun o1 σ1 k => (zIn_out k).2) (fun σ1 o σ' k => zL5_fr k) h
  · rcases h2 with ⟨_, _, h3⟩ | ⟨w, _, h3⟩
    · rw [← h3]
      exact (zDi_out h1).2
    · rcases h3 with ⟨_, h4⟩ | ⟨_, h4⟩
      · exact zFr_trans (zDi_out h1).2 (zL5_fr h4)
      · exact zFr_trans (zDi_out h1).2 (zL5_fr h4)
theorem zL3_fr {σ σ' : zS} {o : zO} (h : zL3 σ o σ') : zFr σ σ' := by
  rcases h with ⟨_, h⟩ | ⟨_, h⟩
  · exact zSq_fr (fun o1 σ1 k => (zGv_out k).2) (fun σ1 o σ' k => zL4_fr k) h
  · exact zL4_fr h
theorem zOpn_fr (σ : zS) : zFr σ (zOpn σ) := zFr_I (zFr_I (zFr_I (zFr_I (zFr_refl σ) rfl) rfl) rfl) rfl
theorem zLn_fr {σ σ' : zS} {o : zO} (h : zLnR σ o σ') : zFr σ σ' := by
  rcases h with ⟨_, h⟩ | ⟨_, h⟩
  · rw [← h.2]
    exact zOpn_fr σ
  · exact zFr_trans (zOpn_fr σ) (zSq_fr (fun o1 σ1 k => (zLbl_out k).2) (fun σ1 o σ' k => zSq_fr (fun o1 σ1 k => (zOp_out k).2) (fun σ1 o σ' k => zSq_fr (fun o1 σ1 k => (zCh_out k).2) (fun σ1 o σ' k => zL3_fr k) k) k) h)
end
section
variable {c0 : mH} {v5 : Value}
/-- what assembling comes to on both sides -/
def asR (c0 : mH) (σ τ : zS) (r r' : mO × mH) : Prop := (∃ σ1 τ1 k, r = zOut c0 (.inr 0) σ1 ∧ r' = zOut c0 (.inl (some (.int 0))) (zI (zI τ1 25 20 k) 25 0 1) ∧ zFr σ σ1 ∧ yFr τ τ1) ∨ (∃ σ1 τ1 V pl W G fi, r = zOut c0 (.inl (some (.int (σ1.1 11 9)))) (zDone σ1 V pl W G) ∧ r' = zOut c0 (.inl (some (.int (τ1.1 25 25)))) (yDone τ1) ∧ σ1.1 11 9 = τ1.1 25 25 ∧ aR (zAs σ1 V pl W G) τ1 fi ∧ (∀ j, j < (xCn σ1).toNatClampNeg → ¬ τ1.2.2.1 36 j = 0) ∧ zFr σ σ1 ∧ yFr τ τ1)
theorem asR_tr {σ σ0 τ τ0 : zS} {r r' : mO × mH} (h : asR c0 σ0 τ0 r r') (k : zFr σ σ0) (ky : yFr τ τ0) : asR c0 σ τ r r' := by
  rcases h with ⟨σ1, τ1, x, a, b, c, d⟩ | ⟨σ1, τ1, V, pl, W, G, fi, a, b, c, d, e, f, g⟩
  · exact .inl ⟨σ1, τ1, x, a, b, zFr_trans k c, yFr_trans ky d⟩
  · exact .inr ⟨σ1, τ1, V, pl, W, G, fi, a, b, c, d, e, zFr_trans k f, yFr_trans ky g⟩
/-- the reference's end when it is wrong -/
theorem ref_bad (h0 : zC0 c0) {d n m : Nat} {r : mO × mH} {τ : zS} {a x k : Int32} (hb : ¬ yB τ = 0) (hy : zF v5 d n 8 m 13 [(2, .int a), (3, .int x), (1, .int k), (0, .ref 183)] [] (zH c0 τ) = some r) : r = zOut c0 (.inl (some (.int 0))) (zI (zI τ 25 20 k) 25 0 1) := by
  rcases z8_t h0 hy with ⟨_, m', h1⟩ | ⟨h1, _⟩
  · rcases z8_e h0 h1 with ⟨_, h2⟩ | ⟨h2, _⟩
    · exact h2
    · exact absurd h2 hb
  · exact absurd h1.1 hb
theorem asm_loop (h0 : zC0 c0) {d n d' n' : Nat} {r r' : mO × mH} : ∀ (N m : Nat), m ≤ N → ∀ (m2 fi : Nat) (σ τ : zS) (i a x k : Int32), aR σ τ fi → xT σ = yT τ → σ.1 9 1 = τ.1 25 18 → (0 ≤ (τ.1 25 18).toInt ∧ (τ.1 25 18).toInt ≤ 240) → chR (yT τ) (τ.1 25 18) → σ.1 9 3 = a → 0 ≤ a.toInt → i.toInt ≤ a.toInt → a.toInt ≤ 241 → (0 ≤ (σ.1 11 11).toInt ∧ (σ.1 11 11).toInt ≤ a.toInt) → σ.1 11 10 = 0 → τ.1 25 26 = 0 → yB τ = 0 → 0 ≤ i.toInt → zF v5 d n 38 m 9 [(1, .int i), (0, .ref 158)] [] (zH c0 σ) = some r → zF v5 d' n' 8 m2 13 [(2, .int a), (3, .int x), (1, .int k), (0, .ref 183)] [] (zH c0 τ) = some r' → asR c0 σ τ r r' := by
  intro N
  induction N with
  | zero =>
    intro m hm m2 fi σ τ i a x k _ _ _ _ _ _ _ _ _ _ _ _ _ _ hx _
    have : m = 0 := by omega
    rw [this] at hx
    rcases z38_t h0 hx with ⟨_, m', h1⟩ | ⟨_, _, o1, σ1, _, h3⟩
    · cases hx
    · cases hx
  | succ N ih =>
    intro m hm m2 fi σ τ i a x k h hT hlen hl hch ha ha0 hia ha1 hcur hnd hrd hb hi0 hx hy
    have hwant : xWant σ ↔ ¬ τ.1 25 18 < a := by
      show (σ.1 11 10 = 0 ∧ ¬ σ.1 9 1 < σ.1 9 3) ↔ _
      rw [hlen, ha]
      exact ⟨fun q => q.2, fun q => ⟨hnd, q⟩⟩
    have hfe : xFin σ = none := if_pos (.inl hnd)
    rcases z8_t h0 hy with ⟨y1, _⟩ | ⟨_, τ1, m3, _, y2, y3⟩
    · rcases y1 with y1 | y1
      · exact absurd hb y1
      · exact absurd hrd y1
    · rcases z38_t h0 hx with ⟨x1, m', x2⟩ | ⟨x1, x2, o1, σ1, x3, x4⟩
      · have hla : τ.1 25 18 < a := by
          rcases x1 with x1 | x1
          · rw [Int32.lt_iff_toInt_lt, show (240 : Int32).toInt = 240 from rfl] at x1
            rw [Int32.lt_iff_toInt_lt]
            omega
          · exact Decidable.byContradiction fun q => x1 (hwant.2 q)
        rcases y3 with ⟨_, y4, y5⟩ | ⟨y3, _⟩
        · left
          rcases z38_e h0 x2 with ⟨_, σ', x3, x4⟩ | ⟨V, pl, W, G, x3, x4⟩
          · exact ⟨σ', τ1, k + 1, x4, ref_bad h0 y5 y2, x3, y4⟩
          · rw [hfe] at x3
            cases x3
        · exact absurd hla y3
      · have hnl := hwant.1 x2
        have hal : a.toInt ≤ (τ.1 25 18).toInt := by
          rw [Int32.lt_iff_toInt_lt] at hnl
          omega
        rcases y3 with ⟨y3, _⟩ | ⟨_, y4⟩
        · exact absurd y3 hnl
        · obtain ⟨hE, hln⟩ := line_ok h hT hlen hl.2 hch ha ha0 hal ⟨hcur.1, by omega⟩ hb x3 y4
          have hfr := zLn_fr x3
          have hyr : yFr τ τ1 := y4.2.1
          have b1 := zSc_b (p := fun k => !decide (yT τ k.toNatClampNeg = 10)) (e := τ.1 25 18) (a := a) hal
          have e1 : zSc (fun k => !decide (yT τ k.toNatClampNeg = 10)) (τ.1 25 18) a = yEol τ a := rfl
          rw [e1] at b1
          rcases hln with ⟨l1, l2⟩ | ⟨l1, l2, l3, l4, l5⟩ | ⟨l1, l2, l3⟩
          · left
            rcases x4 with ⟨_, x5⟩ | ⟨x5, _⟩
            · exact ⟨σ1, τ1, k + 1, x5, ref_bad h0 l2 y2, hfr, hyr⟩
            · rw [l1] at x5
              cases x5
          · rcases x4 with ⟨x5, _⟩ | ⟨_, m4, x5, x6⟩
            · rw [l1] at x5
              cases x5
            · have hi1 : (i + 1).toInt = i.toInt + 1 := int1 hi0 (by omega)
              have ht1 : (yEol τ a + 1).toInt = (yEol τ a).toInt + 1 := int1 (by omega) (by omega)
              have hc1 : (σ.1 11 11 + 1).toInt = (σ.1 11 11).toInt + 1 := int1 hcur.1 (by omega)
              have e93 : σ1.1 9 3 = yEol τ a + 1 := by
                rw [l4.2.1]
                show zEol σ + 1 = _
                rw [hE]
              have e11 : σ1.1 11 11 = σ.1 11 11 + 1 := l4.2.2.2.1
              have e18 : τ1.1 25 18 = τ.1 25 18 := l5.1
              refine asR_tr (ih m4 (by omega) m3 _ σ1 τ1 (i + 1) (yEol τ a + 1) (yEol τ a) (k + 1) l3 ?_ ?_ ?_ ?_ e93 ?_ ?_ ?_ ?_ ?_ ?_ l2 ?_ x6 y2) hfr hyr
              · rw [l4.2.2.2.2, l5.2.2]
                exact hT
              · rw [l4.1, e18]
                exact hlen
              · rw [e18]
                exact hl
              · rw [e18, l5.2.2]
                exact hch
              · omega
              · omega
              · omega
              · rw [e11]
                omega
              · rw [l4.2.2.1]
                exact hnd
              · rw [l5.2.1]
                exact hrd
              · omega
          · rcases x4 with ⟨x5, _⟩ | ⟨_, m4, x5, x6⟩
            · rw [l1] at x5
              cases x5
            · have hnw : ¬ xWant σ1 := fun q => by
                have := q.1
                rw [l2] at this
                exact absurd this (by decide)
              rcases z38_t h0 x6 with ⟨_, m5, x7⟩ | ⟨_, x7, _⟩
              · rcases l3 with ⟨e1, e2⟩ | ⟨V, pl, W, G, e1, e2, e3, e4, e5, e6⟩
                · left
                  rcases z38_e h0 x7 with ⟨_, σ', x8, x9⟩ | ⟨V, pl, W, G, x8, x9⟩
                  · exact ⟨σ', τ1, k + 1, x9, ref_bad h0 e2 y2, zFr_trans hfr x8, hyr⟩
                  · rw [e1] at x8
                    cases x8
                · right
                  rcases z38_e h0 x7 with ⟨x8, _⟩ | ⟨V', pl', W', G', x8, x9⟩
                  · rw [e1] at x8
                    cases x8
                  · rw [e1] at x8
                    cases x8
                    refine ⟨σ1, τ1, V, pl, W, G, _, x9, ?_, e5, e4, e6, hfr, hyr⟩
                    rcases z8_t h0 y2 with ⟨_, m6, y5⟩ | ⟨y5, _⟩
                    · rcases z8_e h0 y5 with ⟨y6, _⟩ | ⟨_, y6⟩
                      · exact absurd e2 y6
                      · exact y6
                    · rw [e3] at y5
                      exact absurd y5.2 (by decide)
              · exact absurd x7 hnw
/-- both assemblers -/
theorem asm_ok (h0 : zC0 c0) {d n d' n' : Nat} {r r' : mO × mH} {σ τ : zS} (hT : xT σ = yT τ) (hlen : σ.1 9 1 = τ.1 25 18) (hl : 0 ≤ (τ.1 25 18).toInt ∧ (τ.1 25 18).toInt ≤ 240) (hch : chR (yT τ) (τ.1 25 18)) (hx : evM 158 nDflt (mP' (nCodw v5)) nHn nMxx' d n 38 [.ref 158] (zH c0 σ) = some r) (hy : evM 158 nDflt (mP' (nCodw v5)) nHn nMxx' d' n' 8 [.ref 183] (zH c0 τ) = some r') : asR c0 (zBeg σ) (yFs (zI τ 25 0 0)) r r' := by
  obtain ⟨d1, m1, hx1⟩ := z38_b h0 hx
  obtain ⟨d2, m2, hy1⟩ := z8_b h0 hy
  have hc : ∀ (x : Int32) (M : Nat → Int32) (k i : Nat), i < k → zCons x M k i = x := fun x M k i hi => if_pos hi
  have hR : aR (zBeg σ) (yFs (zI τ 25 0 0)) 0 := by
    refine aRf.mk (pl := rfl) (plv := ?_) (cn := rfl) (nm := ⟨⟨?_, ?_⟩, ?_, ?_⟩) (vl := ?_) (dg := ?_) (lc := rfl) (lr := ?_) (lt := ?_) (wd := ?_) (wt := rfl) (wr := ?_) (fs := Nat.zero_le _) (en := ?_) (wp := ?_) (ln := ?_) (kd := ?_)
    · show vOk 0
      decide
    · show 0 ≤ (0 : Int32).toInt
      decide
    · show (0 : Int32).toInt ≤ 30
      decide
    · intro i hi
      exact absurd (show i < 0 from hi) (Nat.not_lt_zero _)
    · intro i j hi
      exact absurd (show i < 0 from hi) (Nat.not_lt_zero _)
    · intro i hi
      exact absurd (show i < 0 from hi) (Nat.not_lt_zero _)
    · intro i hi
      left
      exact ⟨hc (-1) _ 10 i hi, hc 0 _ 10 i hi⟩
    · show 0 ≤ (0 : Int32).toInt ∧ (0 : Int32).toInt ≤ 20
      decide
    · intro i hi
      exact absurd (show i < 0 from hi) (Nat.not_lt_zero _)
    · intro i hi
      left
      exact ⟨hc (-1) _ 200 i hi, hc 0 _ 200 i hi⟩
    · show 0 ≤ (0 : Int32).toInt ∧ (0 : Int32).toInt ≤ 60
      decide
    · intro i hi
      exact absurd (show i < 0 from hi) (Nat.not_lt_zero _)
    · intro i hi
      exact absurd (show i < 0 from hi) (Nat.not_lt_zero _)
    · intro i hi
      exact absurd (show i < 0 from hi) (Nat.not_lt_zero _)
    · intro i hi
      exact absurd (show i < 0 from hi) (Nat.not_lt_zero _)
  exact asm_loop h0 m1 m1 (Nat.le_refl _) m2 0 _ _ 0 0 0 0 hR hT hlen hl hch rfl (by decide) (by decide) (by decide) (by show 0 ≤ (0 : Int32).toInt ∧ (0 : Int32).toInt ≤ (0 : Int32).toInt; decide) rfl rfl rfl (by decide) hx1 hy1
end
