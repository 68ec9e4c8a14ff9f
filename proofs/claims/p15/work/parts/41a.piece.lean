/-! A CHECK IN PIECES -/
def rTw (k0 : Nat) (P : Nat → Nat → Option mI) (Hn : Nat → List (Nat × Nat × Nat × Nat)) (Ht : Nat → Nat → Option rHt) (d : Nat) (call : Nat → List Value → rF → rH → Option (List rR)) (mi : Nat) : Nat → Bool → rT → Option (List (rT ⊕ rR))
  | 0, _, s => some [.inl s]
  | n + 1, fl, s => match (if fl = true then none else Ht mi s.2.1) with
    | some (.inr (.inl q)) => (match rAt s q.1.1 q.1.2.1 q.1.2.2 with
      | some v => if (rRg s.1 v).isSome = true then rAll (fun g => rTw k0 P Hn Ht d call mi n true (g, s.2)) (rSpl s.1 v q.2.1) else some [.inl s]
      | none => some [.inl s])
    | some _ => some [.inl s]
    | none => match rSp k0 P Hn d call mi s with
      | none => none
      | some l => rAll (fun q => match q with
        | .inr r => some [.inr r]
        | .inl t => rTw k0 P Hn Ht d call mi n false t) l
def rPcs (o : Option (List (rT ⊕ rR))) (f : rT ⊕ rR → Bool) (a b : Nat) : Bool := match o with
  | some l => ((l.drop a).take b).all f
  | none => false
def rCov (o : Option (List (rT ⊕ rR))) (n : Nat) : Bool := match o with
  | some l => decide (l.length ≤ n)
  | none => false
theorem rPcs_ok {o : Option (List (rT ⊕ rR))} {f : rT ⊕ rR → Bool} {N : Nat} (hc : rCov o N = true) (h : ∀ i, i < N → ∃ a b, a ≤ i ∧ i < a + b ∧ rPcs o f a b = true) : ∃ l, o = some l ∧ ∀ q ∈ l, f q = true := by
  unfold rCov at hc
  split at hc
  · rename_i l
    rw [decide_eq_true_eq] at hc
    refine ⟨l, rfl, fun q hq => ?_⟩
    obtain ⟨i, hi, rfl⟩ := List.getElem_of_mem hq
    obtain ⟨a, b, h1, h2, h3⟩ := h i (by omega)
    unfold rPcs at h3
    dsimp only at h3
    refine List.all_eq_true.mp h3 _ (List.mem_of_getElem? (i := i - a) ?_)
    rw [List.getElem?_take, if_pos (by omega), List.getElem?_drop, show a + (i - a) = i by omega]
    exact List.getElem?_eq_getElem hi
  · cases hc
section PC
variable {c0 : mH} {k0 : Nat} {dflt : Nat → List Value} {Pa P : Nat → Nat → Option mI} {Hn : Nat → List (Nat × Nat × Nat × Nat)} {Ht : Nat → Nat → Option rHt} {d d' : Nat} {acall : Nat → List Value → rF → rH → Option (List rR)} {call : Nat → List Value → mH → Option (mO × mH)} {mi : Nat}
theorem rTw_ok (hP : ∀ mi pc e, Pa mi pc = some e → P mi pc = some e) (hd : d ≤ d') (hcall : rCs' c0 acall call) : ∀ (n : Nat), n ≤ 9000 → ∀ {fl : Bool} {s : rT} {l : List (rT ⊕ rR)} {ρ : List Int} {lc : mL} {stc : List Value} {hc : mH}, s.1.length + n < 60000 → rTw k0 Pa Hn Ht d acall mi n fl s = some l → rOk ρ s.1 → rEv ρ s.2.2.1 = some lc → rEs ρ s.2.2.2.1 = some stc → rHr c0 ρ s.2.2.2.2 hc → ∃ q ∈ l, rHit c0 ρ (fun n => evF k0 dflt P Hn d' call n mi) s.2.1 lc stc hc q
  | 0, _, fl, s, l, ρ, lc, stc, hc, _, h, hO, hl, hs, hh => by
    cases h
    exact ⟨_, List.mem_cons_self, [], by rw [List.append_nil]; exact hO, lc, stc, hc, by rw [List.append_nil]; exact hl, by rw [List.append_nil]; exact hs, by rw [List.append_nil]; exact hh, 0, fun n => rfl⟩
  | n + 1, hn9, fl, s, l, ρ, lc, stc, hc, hln, h, hO, hl, hs, hh => by
    have stay : ∃ q ∈ [(Sum.inl s : rT ⊕ rR)], rHit c0 ρ (fun n => evF k0 dflt P Hn d' call n mi) s.2.1 lc stc hc q := ⟨_, List.mem_cons_self, [], by rw [List.append_nil]; exact hO, lc, stc, hc, by rw [List.append_nil]; exact hl, by rw [List.append_nil]; exact hs, by rw [List.append_nil]; exact hh, 0, fun n => rfl⟩
    unfold rTw at h
    split at h
    · rename_i q hq
      split at h
      · rename_i v hv
        split at h
        · rename_i hsome
          obtain ⟨c, c1⟩ := rAt_ok hl hh hv
          cases hq : rRg s.1 v with
          | none => rw [hq] at hsome; cases hsome
          | some p =>
            obtain ⟨x, rfl, x1, x2⟩ := rRg_ok hO hq c1
            have b := rI_b x
            obtain ⟨g, g1, g2⟩ := rSpl_ok (rVal_i hO hq c1) b.1 b.2 (ps := q.2.1) hO
            obtain ⟨y, y1, y2⟩ := rAll_mem h g1
            obtain ⟨q', k1, k2⟩ := rTw_ok hP hd hcall n (by omega) (s := (g, s.2)) (by show g.length + n < 60000; rw [rSpl_len g1]; omega) y1 g2 hl hs hh
            exact ⟨q', y2 q' k1, k2⟩
        · cases h
          exact stay
      · cases h
        exact stay
    · cases h
      exact stay
    · split at h
      · cases h
      · rename_i l2 hl2
        obtain ⟨q, q1, q2⟩ := rSp_ok (dflt := dflt) hcall (by omega) hO hl hs hh (rSp_P hP hd hl2)
        obtain ⟨y, y1, y2⟩ := rAll_mem h q1
        cases q with
        | inr r =>
          cases y1
          exact ⟨_, y2 _ List.mem_cons_self, q2⟩
        | inl t =>
          obtain ⟨ex, e1, lc', stc', hc', e2, e3, e4, j, e5⟩ := q2
          have hl3 := rSp_len hl2 q1
          obtain ⟨q', k1, k2⟩ := rTw_ok hP hd hcall n (by omega) (by omega) y1 e1 e2 e3 e4
          refine ⟨q', y2 q' k1, ?_⟩
          cases q' with
          | inr r =>
            obtain ⟨ex2, f1, oc, hc2, f2, f3, i, f4⟩ := k2
            rw [List.append_assoc] at f1 f2 f3
            exact ⟨ex ++ ex2, f1, oc, hc2, f2, f3, i + j, fun m => by rw [← Nat.add_assoc, e5]; exact f4 m⟩
          | inl t2 =>
            obtain ⟨ex2, f1, lc2, stc2, hc2, f2, f3, f4, i, f5⟩ := k2
            rw [List.append_assoc] at f1 f2 f3 f4
            exact ⟨ex ++ ex2, f1, lc2, stc2, hc2, f2, f3, f4, i + j, fun m => by rw [← Nat.add_assoc, e5]; exact f5 m⟩
end PC
section PC2
variable {k0 : Nat} {dflt : Nat → List Value} {Pa P : Nat → Nat → Option mI} {Hn : Nat → List (Nat × Nat × Nat × Nat)} {mx : Nat → Nat} {Ht : Nat → Nat → Option rHt} {J : Nat → Nat → Nat → rT → Option rT} {O : Nat → List Value → rF → rH → Option (List rR)} {T : Nat → List rCo} {F : Nat} {mxa : Nat → Nat}
/-- one piece -/
def rPiece (k0 : Nat) (Pa : Nat → Nat → Option mI) (Hn : Nat → List (Nat × Nat × Nat × Nat)) (mx : Nat → Nat) (Ht : Nat → Nat → Option rHt) (J : Nat → Nat → Nat → rT → Option rT) (O : Nat → List Value → rF → rH → Option (List rR)) (T : Nat → List rCo) (F d mi : Nat) (C : rCo) (q : rT ⊕ rR) : Bool := match q with
  | .inr r => rPs C.2.1.length C.2.2.2.2.1 C.2.2.2.2.2 [r]
  | .inl t => decide (t.1.length ≤ 50000) && (match rRun k0 Pa Hn Ht (J (d + 1)) (d + 1) (rCall k0 Pa Hn Ht J O T mx F d) mi F [] false t with
    | some rs => rPs C.2.1.length C.2.2.2.2.1 C.2.2.2.2.2 rs
    | none => false)
/-- the states behind n steps -/
def rFro (k0 : Nat) (Pa : Nat → Nat → Option mI) (Hn : Nat → List (Nat × Nat × Nat × Nat)) (mx : Nat → Nat) (Ht : Nat → Nat → Option rHt) (J : Nat → Nat → Nat → rT → Option rT) (O : Nat → List Value → rF → rH → Option (List rR)) (T : Nat → List rCo) (F d mi : Nat) (C : rCo) (n : Nat) : Option (List (rT ⊕ rR)) := rTw k0 Pa Hn Ht (d + 1) (rCall k0 Pa Hn Ht J O T mx F d) mi n false (C.2.1, 0, lv_args 0 C.2.2.2.1, [], C.2.2.2.2.1)
theorem rChkP_ok (hF : F ≤ 9000) (hP : ∀ mi pc e, Pa mi pc = some e → P mi pc = some e) (hM : ∀ mi, mxa mi ≤ mx mi) (hH : rHooks k0 dflt P Hn mx J O) (hT : ∀ mi, ∀ C ∈ T mi, rCon k0 dflt P Hn mx mi C) {mi d n : Nat} {C : rCo} (hd : C.1 = d + 1) (hn : n ≤ 9000) (hs : (lg_sl C.2.2.2.1).length ≤ mxa mi) (hl : C.2.1.length ≤ 50000) (h : ∃ l, rFro k0 Pa Hn mxa Ht J O T F d mi C n = some l ∧ ∀ q ∈ l, rPiece k0 Pa Hn mxa Ht J O T F d mi C q = true) : rCon k0 dflt P Hn mx mi C := by
  intro d' hd' ρ asc hc hO ha hh
  rw [hd] at hd'
  obtain ⟨e, rfl⟩ : ∃ e, d' = e + 1 := ⟨d' - 1, by omega⟩
  obtain ⟨l, hfr, hpc⟩ := h
  obtain ⟨call, hcl⟩ := rLim (k0 := k0) (dflt := dflt) (P := P) (Hn := Hn) (mx := mx) e
  have hcs : rCs' hc (rCall k0 Pa Hn Ht J O T mxa F d) call := fun ρ ce as fs h rs asc hc2 h1 h2 h3 h4 => by
    obtain ⟨r, r1, ex, r2, oc, hc', r3, r4, r5⟩ := rCall_ok (c0 := hc) hF hP hM hH hT d e (by omega) ρ ce as fs h rs asc hc2 h1 h2 h3 h4
    exact ⟨r, r1, ex, r2, oc, hc', r3, r4, (hcl _ _ _ _).mpr r5⟩
  have fin : ∀ (rs : List rR), rPs C.2.1.length C.2.2.2.2.1 C.2.2.2.2.2 rs = true → ∀ r ∈ rs, ∀ ex, rOk (ρ ++ ex) r.1 → ∀ oc hc', rOut (ρ ++ ex) r.2.1 oc hc' → rHr hc (ρ ++ ex) r.2.2 hc' → (∃ n, evF k0 dflt P Hn (e + 1) call n mi 0 (lv_args 0 asc) [] hc = some (oc, hc')) → ∃ q ∈ C.2.2.2.2.2, ∃ ex, rOk (ρ ++ ex) (C.2.1 ++ q.1.map (fun e => e.2)) ∧ (∀ e ∈ q.2.2.2.2, ∃ z, ρ[e.1]? = some z ∧ e.2.1 ≤ z ∧ z ≤ e.2.2) ∧ ∃ oc hc', rOut (ρ ++ ex) q.2.1 oc hc' ∧ rHr hc (ρ ++ ex) (rMr q.2.2.1 C.2.2.2.2.1.1, q.2.2.2.1) hc' ∧ ∃ n, evM k0 dflt P Hn mx (e + 1) n mi asc hc = some (oc, hc') := by
    intro rs hps r hr ex k1 oc hc' k2 k3 ⟨n, k4⟩
    unfold rPs at hps
    have := List.all_eq_true.mp hps r hr
    obtain ⟨q, q1, q2⟩ := List.any_eq_true.mp this
    obtain ⟨ex', e1, e2, e3, e4⟩ := rPo_ok rfl hO k1 k2 k3 q2
    exact ⟨q, q1, ex', e1, e2, oc, hc', e3, e4, rLimM hcl (by rw [rSl_len ha]; exact Nat.le_trans hs (hM mi)) k4⟩
  unfold rFro at hfr
  obtain ⟨q, q1, q2⟩ := rTw_ok (dflt := dflt) hP (show d + 1 ≤ e + 1 by omega) hcs n hn (by show C.2.1.length + n < 60000; omega) hfr hO (rEv_args 0 ha) rfl hh
  have hq := hpc q q1
  cases q with
  | inr r =>
    obtain ⟨ex, e1, oc, hc', e2, e3, j, e4⟩ := q2
    exact fin [r] hq r List.mem_cons_self ex e1 oc hc' e2 e3 ⟨0 + j, e4 0⟩
  | inl t =>
    obtain ⟨ex, e1, lc', stc', hc', e2, e3, e4, j, e5⟩ := q2
    unfold rPiece at hq
    dsimp only at hq
    rw [Bool.and_eq_true, decide_eq_true_eq] at hq
    obtain ⟨hq1, hq2⟩ := hq
    split at hq2
    · rename_i rs hrs
      obtain ⟨r, r1, ex2, r2, oc, hc2, r3, r4, m, r5⟩ := rRun_ok (dflt := dflt) hP (show d + 1 ≤ e + 1 by omega) hcs (hH.1 d e call hc (by omega) hcl) F hF (ρ0 := ρ) (O := rs) (by omega) hrs (fun r hr => hr) ⟨ex, rfl⟩ e1 e2 e3 e4 (fun c hc => by cases hc)
      exact fin rs hq2 r r1 ex2 r2 oc hc2 r3 r4 ⟨m + j, (e5 m).trans r5⟩
    · cases hq2
end PC2
