/-! CALLS BY CONTRACT, AND WHAT A CHECK PROVES -/
section CL
variable {c0 : mH} {k0 : Nat} {dflt : Nat → List Value} {P : Nat → Nat → Option mI} {Hn : Nat → List (Nat × Nat × Nat × Nat)} {mx : Nat → Nat}
/-- a contract holds -/
def rCon (k0 : Nat) (dflt : Nat → List Value) (P : Nat → Nat → Option mI) (Hn : Nat → List (Nat × Nat × Nat × Nat)) (mx : Nat → Nat) (mi : Nat) (C : rCo) : Prop := ∀ d', C.1 ≤ d' → ∀ (ρ : List Int) asc hc, rOk ρ C.2.1 → rEs ρ C.2.2.2.1 = some asc → rHr hc ρ C.2.2.2.2.1 hc → ∃ q ∈ C.2.2.2.2.2, ∃ ex, rOk (ρ ++ ex) (C.2.1 ++ q.1.map (fun e => e.2)) ∧ (∀ e ∈ q.2.2.2.2, ∃ z, ρ[e.1]? = some z ∧ e.2.1 ≤ z ∧ z ≤ e.2.2) ∧ ∃ oc hc', rOut (ρ ++ ex) q.2.1 oc hc' ∧ rHr hc (ρ ++ ex) (rMr q.2.2.1 C.2.2.2.2.1.1, q.2.2.2.1) hc' ∧ ∃ n, evM k0 dflt P Hn mx d' n mi asc hc = some (oc, hc')
theorem rOs_ok {ρ2 zx : List Int} {σ2 : List Value} (hz : rVs ρ2 σ2 = some zx) {o o' : rO} {oc : mO} {hc : mH} (h : rOs σ2 o = some o') (ho : rOut zx o oc hc) : rOut ρ2 o' oc hc := by
  unfold rOs at h
  split at h
  · cases h
    exact ho
  · rename_i v
    cases hv : rSu 0 σ2 v with
    | none => rw [hv] at h; cases h
    | some w =>
      rw [hv] at h
      cases h
      obtain ⟨c, c1, c2⟩ := ho
      have := rSu_ok (ρ := ρ2) (n := 0) (Nat.zero_le _) hz hv
      rw [List.take_zero, List.nil_append, c1] at this
      exact ⟨c, this.symm, c2⟩
  · cases h
    exact ho
theorem rTe_ok {ρ : List Int} {fs : rF} (hO : rOk ρ fs) {σ : List Value} {zs ex : List Int} (hz : rVs ρ σ = some zs) (hr : ∀ b, .float b ∈ σ → (rRg fs (.float b)).isSome = true) {e : Nat × Int × Int} {q : Int × Int} {z : Int} (h : rTe σ e = some q) (h1 : e.2.1 ≤ z) (h2 : z ≤ e.2.2) (h3 : rCd (zs ++ ex) e.2 z) : q.1 ≤ z ∧ z ≤ q.2 ∧ rCd (ρ ++ ex) q z := by
  unfold rTe at h
  split at h
  · rename_i a b ha hb
    cases h
    obtain ⟨a1, a2⟩ := rTb_ok (ex := ex) hO hz hr ha h1 h3.1
    obtain ⟨b1, b2⟩ := rTu_ok (ex := ex) hO hz hr hb h2 h3.2
    exact ⟨a1, b1, a2, b2⟩
  · cases h
theorem rMap_get {α β : Type} {f : α → Option β} : ∀ {l : List α} {m : List β} {i : Nat} {y : β}, rMap f l = some m → m[i]? = some y → ∃ x, l[i]? = some x ∧ f x = some y
  | [], _, _, _, h, hy => by cases h; cases hy
  | a :: r, m, i, y, h, hy => by
    unfold rMap at h
    split at h
    · cases h
    · rename_i b hb
      split at h
      · cases h
      · rename_i l hl
        cases h
        cases i with
        | zero => cases hy; exact ⟨a, rfl, hb⟩
        | succ i =>
          rw [List.getElem?_cons_succ] at hy ⊢
          exact rMap_get hl hy
set_option maxHeartbeats 1000000 in
/-- the use of a contract that holds -/
theorem rPick_ok {mi : Nat} {d d' : Nat} (hd : d ≤ d') : ∀ {Cs : List rCo}, (∀ C ∈ Cs, rCon k0 dflt P Hn mx mi C) → ∀ {ρ : List Int} {as : List Value} {fs : rF} {h : rH} {rs : List rR} {asc : List Value} {hc : mH}, rPick d as fs h Cs = some rs → rOk ρ fs → rEs ρ as = some asc → rHr c0 ρ h hc → ∃ r ∈ rs, ∃ ex, rOk (ρ ++ ex) r.1 ∧ ∃ oc hc', rOut (ρ ++ ex) r.2.1 oc hc' ∧ rHr c0 (ρ ++ ex) r.2.2 hc' ∧ ∃ n, evM k0 dflt P Hn mx d' n mi asc hc = some (oc, hc')
  | [], _, ρ, as, fs, h, rs, asc, hc, hp, _, _, _ => by cases hp
  | C :: Cs, hC, ρ, as, fs, h, rs, asc, hc, hp, hO, ha, hh => by
    unfold rPick at hp
    split at hp
    · rename_i hCd
      split at hp
      · rename_i σ hσ
        unfold rPre at hσ
        split at hσ
        · rename_i hm
          injection hσ with hσ
          rw [hσ] at hm
          obtain ⟨m1, m2, m3, m4⟩ := hm
          obtain ⟨zs, hz⟩ := rIr_vs hO m1
          have hok : rOk zs C.2.1 := by
            have := rOk_nil.app (zs := zs) (qs := C.2.1) (by rw [rVs_len hz, rIr_len m1]) (fun i z q h1 h2 => by
              have := rIr_ok hO (Nat.zero_le _) hz m1 hz h1 h2
              rw [List.take_zero] at this
              exact this)
            exact this
          have hargs := rMv_ok hO (Nat.zero_le _) hz m2 ha
          have hheap := rMq_ok hO hz (a := C.2.2.2.2.1) m4 m3 hh
          rw [List.take_zero, List.nil_append] at hargs hheap
          obtain ⟨q, q1, ex, q2, q3, oc, hc', q4, q5, q6⟩ := hC C List.mem_cons_self d' (by omega) zs asc hc hok hargs hheap
          obtain ⟨y, y1, y2⟩ := rAll_mem hp q1
          unfold rUse at y1
          obtain ⟨g, g1, g2⟩ := rCs_ok hz hO q3
          rw [g1] at y1
          dsimp only at y1
          split at y1
          · rename_i hlt
            obtain ⟨hlt, hkn⟩ := hlt
            split at y1
            · rename_i h' o t e he1 he2 he3 he4
              cases y1
              have hexl : ex.length = q.1.length := by
                have := q2.1
                rw [List.length_append, List.length_append, List.length_map, hok.1] at this
                omega
              have hz2 : rVs (ρ ++ ex) (σ ++ rNw fs.length q.1) = some (zs ++ ex) := by
                refine rVs_app (rVs_ext ex hz) ?_
                rw [← hO.1]
                exact rNw_ok hexl (by rw [hO.1]; omega)
              have hkn' : ∀ m ∈ q.2.2.1, ∃ p, rGt C.2.2.2.2.1.1 m.1 = some (some (.inr p)) := fun m hm => by
                have := List.all_eq_true.mp hkn m hm
                split at this
                · rename_i p hp'
                  exact ⟨p, hp'⟩
                · cases this
              obtain ⟨s1, s2, s3, s4⟩ := rMd_ok hz2 hkn' (rMq_sl hO hz (a := C.2.2.2.2.1) m4 hh ex) he1
              have htl := rSu_ok (ρ := ρ ++ ex) (n := 0) (Nat.zero_le _) hz2 he3
              rw [List.take_zero, List.nil_append] at htl
              refine ⟨_, y2 _ List.mem_cons_self, ex, ?_, oc, hc', rOs_ok hz2 he2 q4, s1.hr s2 s3 s4 hh htl q5, q6⟩
              refine g2.app (by rw [rMap_len he4]; exact hexl) (fun i z p hz1 hp1 => ?_)
              obtain ⟨x, x1, x2⟩ := rMap_get he4 hp1
              have hq : (C.2.1 ++ q.1.map (fun e => e.2))[zs.length + i]? = some x.2 := by
                rw [List.getElem?_append_right (by rw [hok.1]; omega), hok.1, Nat.add_sub_cancel_left, List.getElem?_map, x1]
                rfl
              have hzi : (zs ++ ex)[zs.length + i]? = some z := by
                rw [List.getElem?_append_right (by omega), Nat.add_sub_cancel_left]
                exact hz1
              obtain ⟨w, w1, w2, w3⟩ := q2.2.1 _ _ hq
              rw [hzi] at w1
              cases w1
              exact rTe_ok hO hz (rIr_fl m1) x2 w2 w3 (q2.2.2 _ _ _ hq hzi)
            · cases y1
          · cases y1
        · cases hσ
      · exact rPick_ok hd (fun C hC2 => hC C (List.mem_cons_of_mem _ hC2)) hp hO ha hh
    · exact rPick_ok hd (fun C hC2 => hC C (List.mem_cons_of_mem _ hC2)) hp hO ha hh
/-- all that a call can come to, with fuel enough -/
theorem rLim (d : Nat) : ∃ call : Nat → List Value → mH → Option (mO × mH), ∀ ce as h r, call ce as h = some r ↔ ∃ n, evM k0 dflt P Hn mx d n ce as h = some r := by
  have key : ∀ x : Nat × List Value × mH, ∃ o : Option (mO × mH), ∀ r, o = some r ↔ ∃ n, evM k0 dflt P Hn mx d n x.1 x.2.1 x.2.2 = some r := fun x => by
    by_cases hx : ∃ r n, evM k0 dflt P Hn mx d n x.1 x.2.1 x.2.2 = some r
    · obtain ⟨r, n, hr⟩ := hx
      refine ⟨some r, fun r' => ⟨fun h => ?_, fun h => ?_⟩⟩
      · cases h
        exact ⟨n, hr⟩
      · obtain ⟨m, hm⟩ := h
        have h1 := evM_up d n (n + m) (by omega) hr
        have h2 := evM_up d m (n + m) (by omega) hm
        rw [h1] at h2
        exact h2
    · refine ⟨none, fun r => ⟨fun h => (by cases h), fun h => ?_⟩⟩
      obtain ⟨n, hn⟩ := h
      exact (hx ⟨r, n, hn⟩).elim
  obtain ⟨f, hf⟩ := Classical.axiomOfChoice key
  exact ⟨fun ce as h => f (ce, as, h), fun ce as h r => hf (ce, as, h) r⟩
theorem rLimF {d dp : Nat} {call : Nat → List Value → mH → Option (mO × mH)} (hcl : ∀ ce as h r, call ce as h = some r ↔ ∃ n, evM k0 dflt P Hn mx d n ce as h = some r) : ∀ (n : Nat) {mi pc : Nat} {lv : mL} {st : List Value} {h : mH} {r : mO × mH}, evF k0 dflt P Hn dp call n mi pc lv st h = some r → ∃ m, evF k0 dflt P Hn dp (evM k0 dflt P Hn mx d m) n mi pc lv st h = some r
  | 0, _, _, _, _, _, _, he => by cases he
  | n + 1, mi, pc, lv, st, h, r, he => by
    have up : ∀ {m m' k : Nat} {mi pc : Nat} {lv : mL} {st : List Value} {h : mH} {r : mO × mH}, m ≤ m' → evF k0 dflt P Hn dp (evM k0 dflt P Hn mx d m) k mi pc lv st h = some r → evF k0 dflt P Hn dp (evM k0 dflt P Hn mx d m') k mi pc lv st h = some r := fun hm hx => evF_up (fun ce as h r hr => evM_up d _ _ hm hr) _ _ (Nat.le_refl _) hx
    unfold evF at he
    split at he
    · cases he
    · rename_i e hp
      split at he
      · rename_i v hv
        refine ⟨0, ?_⟩
        unfold evF
        rw [hp]
        dsimp only
        rw [hv]
        exact he
      · rename_i hv
        split at he
        · rename_i x hx
          refine ⟨0, ?_⟩
          unfold evF
          rw [hp]
          dsimp only
          rw [hv, hx]
          exact he
        · rename_i hx
          split at he
          · rename_i ce as rest hc
            split at he
            · rename_i v h' hcr
              obtain ⟨m1, k1⟩ := (hcl _ _ _ _).mp hcr
              obtain ⟨m2, k2⟩ := rLimF hcl n he
              refine ⟨m1 + m2, ?_⟩
              unfold evF
              rw [hp]
              dsimp only
              rw [hv, hx]
              dsimp only
              rw [hc]
              dsimp only
              rw [evM_up d m1 (m1 + m2) (by omega) k1]
              exact up (by omega) k2
            · rename_i x a h' hcr
              obtain ⟨m1, k1⟩ := (hcl _ _ _ _).mp hcr
              split at he
              · rename_i hp' hhd
                obtain ⟨m2, k2⟩ := rLimF hcl n he
                refine ⟨m1 + m2, ?_⟩
                unfold evF
                rw [hp]
                dsimp only
                rw [hv, hx]
                dsimp only
                rw [hc]
                dsimp only
                rw [evM_up d m1 (m1 + m2) (by omega) k1]
                dsimp only
                rw [hhd]
                exact up (by omega) k2
              · rename_i hhd
                refine ⟨m1, ?_⟩
                unfold evF
                rw [hp]
                dsimp only
                rw [hv, hx]
                dsimp only
                rw [hc]
                dsimp only
                rw [k1]
                dsimp only
                rw [hhd]
                exact he
            · cases he
          · rename_i hc
            split at he
            · rename_i pc' lv' st' h' hnx
              obtain ⟨m2, k2⟩ := rLimF hcl n he
              refine ⟨m2, ?_⟩
              unfold evF
              rw [hp]
              dsimp only
              rw [hv, hx]
              dsimp only
              rw [hc]
              dsimp only
              rw [hnx]
              exact k2
            · cases he
/-- a method's run, of its frame's run -/
theorem rLimM {d : Nat} {call : Nat → List Value → mH → Option (mO × mH)} (hcl : ∀ ce as h r, call ce as h = some r ↔ ∃ n, evM k0 dflt P Hn mx d n ce as h = some r) {n mi : Nat} {as : List Value} {h : mH} {r : mO × mH} (hm : (lg_sl as).length ≤ mx mi) (he : evF k0 dflt P Hn (d + 1) call n mi 0 (lv_args 0 as) [] h = some r) : ∃ m, evM k0 dflt P Hn mx (d + 1) m mi as h = some r := by
  obtain ⟨m, hx⟩ := rLimF hcl n he
  refine ⟨n + m, ?_⟩
  unfold evM
  rw [if_pos hm]
  exact evF_up (fun ce as h r hr => evM_up d m (n + m) (by omega) hr) n (n + m) (by omega) hx
end CL
/-- arguments as locals -/
theorem rEv_args {ρ : List Int} : ∀ {as asc : List Value} (i : Nat), rEs ρ as = some asc → rEv ρ (lv_args i as) = some (lv_args i asc)
  | [], asc, i, h => by cases h; rfl
  | v :: r, asc, i, h => by
    obtain ⟨c, l, e1, e2, rfl⟩ := rEs_cons h
    unfold lv_args
    have hc := rE_cat e1
    rw [hc]
    exact rEv_mk e1 (rEv_args _ e2)
theorem rSl_sum : ∀ (l : List Value), (lg_sl l).length = (l.map (fun v => v.category)).sum
  | [] => rfl
  | v :: r => by
    have e : lg_sl (v :: r) = lg_sl [v] ++ lg_sl r := by simp [lg_sl]
    rw [e, List.length_append, rSl_sum r, List.map_cons, List.sum_cons]
    congr 1
    cases v <;> rfl
theorem rSl_len {ρ : List Int} : ∀ {as asc : List Value}, rEs ρ as = some asc → (lg_sl asc).length = (lg_sl as).length := by
  intro as asc h
  have hc := rEs_cats h
  have key : ∀ (l : List Value), (lg_sl l).length = (l.map (fun v => v.category)).sum := rSl_sum
  rw [key, key, hc]
section CL2
variable {c0 : mH} {k0 : Nat} {dflt : Nat → List Value} {Pa P : Nat → Nat → Option mI} {Hn : Nat → List (Nat × Nat × Nat × Nat)} {mx : Nat → Nat} {Ht : Nat → Nat → Option rHt} {J : Nat → Nat → Nat → rT → Option rT} {O : Nat → List Value → rF → rH → Option (List rR)} {T : Nat → List rCo} {F : Nat} {mxa : Nat → Nat}
/-- what the jumps and the calls at once must keep -/
def rHooks (k0 : Nat) (dflt : Nat → List Value) (P : Nat → Nat → Option mI) (Hn : Nat → List (Nat × Nat × Nat × Nat)) (mx : Nat → Nat) (J : Nat → Nat → Nat → rT → Option rT) (O : Nat → List Value → rF → rH → Option (List rR)) : Prop := (∀ d d' (call : Nat → List Value → mH → Option (mO × mH)) (c0 : mH), d ≤ d' → (∀ ce as h r, call ce as h = some r ↔ ∃ n, evM k0 dflt P Hn mx d' n ce as h = some r) → rJs c0 k0 dflt P Hn (J (d + 1)) (d' + 1) call) ∧ ∀ d' (c0 : mH), 1 ≤ d' → ∀ (ρ : List Int) ce as fs h rs asc hc, O ce as fs h = some rs → rOk ρ fs → rEs ρ as = some asc → rHr c0 ρ h hc → ∃ r ∈ rs, ∃ ex, rOk (ρ ++ ex) r.1 ∧ ∃ oc hc', rOut (ρ ++ ex) r.2.1 oc hc' ∧ rHr c0 (ρ ++ ex) r.2.2 hc' ∧ ∃ n, evM k0 dflt P Hn mx d' n ce asc hc = some (oc, hc')
theorem rFrame_ok (hP : ∀ mi pc e, Pa mi pc = some e → P mi pc = some e) (hH : rHooks k0 dflt P Hn mx J O) {d d' : Nat} (hd : d ≤ d') {acall : Nat → List Value → rF → rH → Option (List rR)} (hA : ∀ (ρ : List Int) ce as fs h rs asc hc, acall ce as fs h = some rs → rOk ρ fs → rEs ρ as = some asc → rHr c0 ρ h hc → ∃ r ∈ rs, ∃ ex, rOk (ρ ++ ex) r.1 ∧ ∃ oc hc', rOut (ρ ++ ex) r.2.1 oc hc' ∧ rHr c0 (ρ ++ ex) r.2.2 hc' ∧ ∃ n, evM k0 dflt P Hn mx d' n ce asc hc = some (oc, hc')) {mi : Nat} {ρ : List Int} {as : List Value} {fs : rF} {h : rH} {rs : List rR} {asc : List Value} {hc : mH} (hx : (lg_sl as).length ≤ mx mi) (hF : F ≤ 9000) (hlf : fs.length ≤ 50000) (hr : rRun k0 Pa Hn Ht (J (d + 1)) (d + 1) acall mi F [] false (fs, 0, lv_args 0 as, [], h) = some rs) (hO : rOk ρ fs) (ha : rEs ρ as = some asc) (hh : rHr c0 ρ h hc) : ∃ r ∈ rs, ∃ ex, rOk (ρ ++ ex) r.1 ∧ ∃ oc hc', rOut (ρ ++ ex) r.2.1 oc hc' ∧ rHr c0 (ρ ++ ex) r.2.2 hc' ∧ ∃ n, evM k0 dflt P Hn mx (d' + 1) n mi asc hc = some (oc, hc') := by
  obtain ⟨call, hcl⟩ := rLim (k0 := k0) (dflt := dflt) (P := P) (Hn := Hn) (mx := mx) d'
  have hcs : rCs' c0 acall call := fun ρ ce as fs h rs asc hc h1 h2 h3 h4 => by
    obtain ⟨r, r1, ex, r2, oc, hc', r3, r4, r5⟩ := hA ρ ce as fs h rs asc hc h1 h2 h3 h4
    exact ⟨r, r1, ex, r2, oc, hc', r3, r4, (hcl _ _ _ _).mpr r5⟩
  obtain ⟨r, r1, ex, r2, oc, hc', r3, r4, n, r5⟩ := rRun_ok hP (show d + 1 ≤ d' + 1 by omega) hcs (hH.1 d d' call c0 hd hcl) F hF (ρ0 := ρ) (ρ := ρ) (O := rs) (by show fs.length + F < 60000; omega) hr (fun r hr => hr) ⟨[], by rw [List.append_nil]⟩ hO (rEv_args 0 ha) rfl hh (fun c hc => by cases hc)
  exact ⟨r, r1, ex, r2, oc, hc', r3, r4, rLimM hcl (by rw [rSl_len ha]; exact hx) r5⟩
theorem rCall_ok (hF : F ≤ 9000) (hP : ∀ mi pc e, Pa mi pc = some e → P mi pc = some e) (hM : ∀ mi, mxa mi ≤ mx mi) (hH : rHooks k0 dflt P Hn mx J O) (hT : ∀ mi, ∀ C ∈ T mi, rCon k0 dflt P Hn mx mi C) : ∀ (d d' : Nat), d ≤ d' → ∀ (ρ : List Int) ce as fs h rs asc hc, rCall k0 Pa Hn Ht J O T mxa F d ce as fs h = some rs → rOk ρ fs → rEs ρ as = some asc → rHr c0 ρ h hc → ∃ r ∈ rs, ∃ ex, rOk (ρ ++ ex) r.1 ∧ ∃ oc hc', rOut (ρ ++ ex) r.2.1 oc hc' ∧ rHr c0 (ρ ++ ex) r.2.2 hc' ∧ ∃ n, evM k0 dflt P Hn mx d' n ce asc hc = some (oc, hc')
  | 0, _, _, _, _, _, _, _, _, _, _, h, _, _, _ => by cases h
  | d + 1, 0, hd, _, _, _, _, _, _, _, _, _, _, _, _ => by omega
  | d + 1, d' + 1, hd, ρ, ce, as, fs, h, rs, asc, hc, hr, hO, ha, hh => by
    unfold rCall at hr
    split at hr
    · rename_i l hl
      cases hr
      exact hH.2 (d' + 1) c0 (by omega) ρ ce as fs h _ asc hc hl hO ha hh
    · split at hr
      · rename_i l hl
        cases hr
        exact rPick_ok hd (hT ce) hl hO ha hh
      · split at hr
        · rename_i hx
          exact rFrame_ok hP hH (show d ≤ d' by omega) (fun ρ ce as fs h rs asc hc => rCall_ok hF hP hM hH hT d d' (by omega) ρ ce as fs h rs asc hc) (Nat.le_trans hx.1 (hM _)) hF hx.2 hr hO ha hh
        · cases hr
/-! what a check proves -/
/-- the check of a contract: a run from its pattern comes to its posts -/
def rChk (k0 : Nat) (Pa : Nat → Nat → Option mI) (Hn : Nat → List (Nat × Nat × Nat × Nat)) (mx : Nat → Nat) (Ht : Nat → Nat → Option rHt) (J : Nat → Nat → Nat → rT → Option rT) (O : Nat → List Value → rF → rH → Option (List rR)) (T : Nat → List rCo) (F mi : Nat) (C : rCo) : Bool := match rCall k0 Pa Hn Ht J O T mx F C.1 mi C.2.2.2.1 C.2.1 C.2.2.2.2.1 with
  | some rs => rPs C.2.1.length C.2.2.2.2.1 C.2.2.2.2.2 rs
  | none => false
theorem rVs_mk {ρ : List Int} {α : Type} {f : α → Option Value} (hf : ∀ a v, f a = some v → ∃ z, rVi ρ v = some z) : ∀ {l : List α} {vs : List Value}, rMap f l = some vs → ∃ zs, rVs ρ vs = some zs
  | [], vs, h => by cases h; exact ⟨[], rfl⟩
  | a :: r, vs, h => by
    unfold rMap at h
    split at h
    · cases h
    · rename_i b hb
      split at h
      · cases h
      · rename_i l hl
        cases h
        obtain ⟨z, z1⟩ := hf _ _ hb
        obtain ⟨zs, z2⟩ := rVs_mk hf hl
        exact ⟨z :: zs, by unfold rVs; rw [z1, z2]⟩
theorem rPo_ok {c0 : mH} {ρ : List Int} {n : Nat} {C : rCo} (hn : n = C.2.1.length) (hO : rOk ρ C.2.1) {r : rR} {q : rQs} {ex : List Int} (h1 : rOk (ρ ++ ex) r.1) {oc : mO} {hc : mH} (h2 : rOut (ρ ++ ex) r.2.1 oc hc) (h3 : rHr c0 (ρ ++ ex) r.2.2 hc) (h : rPo n C.2.2.2.2.1 r q = true) : ∃ ex', rOk (ρ ++ ex') (C.2.1 ++ q.1.map (fun e => e.2)) ∧ (∀ e ∈ q.2.2.2.2, ∃ z, ρ[e.1]? = some z ∧ e.2.1 ≤ z ∧ z ≤ e.2.2) ∧ rOut (ρ ++ ex') q.2.1 oc hc ∧ rHr c0 (ρ ++ ex') (rMr q.2.2.1 C.2.2.2.2.1.1, q.2.2.2.1) hc := by
  have hl : n = ρ.length := by rw [hn, hO.1]
  have hnl : n ≤ (ρ ++ ex).length := by rw [List.length_append]; omega
  have et : (ρ ++ ex).take n = ρ := by rw [hl, List.take_left]
  unfold rPo at h
  split at h
  · rename_i τ hτ
    simp only [Bool.and_eq_true] at h
    obtain ⟨⟨⟨⟨g1, g2⟩, g3⟩, g4⟩, g5⟩ := h
    obtain ⟨ws, hw⟩ := rIr_vs h1 g2
    have hhr := rMh_ok h1 hnl hw (a := (rMr q.2.2.1 C.2.2.2.2.1.1, q.2.2.2.1)) g5 g3 h3
    rw [et] at hhr
    refine ⟨ws, ?_, fun e he => ?_, ?_, hhr⟩
    · refine hO.app (by rw [rVs_len hw, rIr_len g2]) (fun i z p hz hp => ?_)
      have := rIr_ok h1 hnl hw g2 hw hz hp
      rw [et] at this
      exact this
    · have := List.all_eq_true.mp g4 e he
      split at this
      · rename_i p hp
        simp only [Bool.and_eq_true, decide_eq_true_eq] at this
        obtain ⟨z, z1, z2, z3⟩ := h1.get hp
        rw [List.getElem?_append_left (by omega)] at z1
        exact ⟨z, z1, by omega, by omega⟩
      · cases this
    · unfold rOm at g1
      split at g1
      · rename_i e1 e2
        rw [e1]
        rw [e2] at h2
        exact h2
      · rename_i v w e1 e2
        rw [e1]
        rw [e2] at h2
        obtain ⟨c, c1, c2⟩ := h2
        have := rMv_ok h1 hnl hw g1 (rEs_mk c1 rfl)
        rw [et] at this
        obtain ⟨c', l, k1, -, k3⟩ := rEs_cons this
        cases k3
        exact ⟨c, k1, c2⟩
      · rename_i x y e1 e2
        rw [beq_iff_eq] at g1
        rw [e1, g1]
        rw [e2] at h2
        exact h2
      · cases g1
  · cases h
theorem rChk_ok (hF : F ≤ 9000) (hP : ∀ mi pc e, Pa mi pc = some e → P mi pc = some e) (hM : ∀ mi, mxa mi ≤ mx mi) (hH : rHooks k0 dflt P Hn mx J O) (hT : ∀ mi, ∀ C ∈ T mi, rCon k0 dflt P Hn mx mi C) {mi : Nat} {C : rCo} (h : rChk k0 Pa Hn mxa Ht J O T F mi C = true) : rCon k0 dflt P Hn mx mi C := by
  intro d' hd ρ asc hc hO ha hh
  unfold rChk at h
  split at h
  · rename_i rs hrs
    obtain ⟨r, r1, ex, r2, oc, hc', r3, r4, r5⟩ := rCall_ok (c0 := hc) hF hP hM hH hT C.1 d' hd ρ mi _ _ _ rs asc hc hrs hO ha hh
    unfold rPs at h
    have := List.all_eq_true.mp h r r1
    obtain ⟨q, q1, q2⟩ := List.any_eq_true.mp this
    obtain ⟨ex', e1, e2, e3, e4⟩ := rPo_ok rfl hO r2 r3 r4 q2
    exact ⟨q, q1, ex', e1, e2, oc, hc', e3, e4, r5⟩
  · cases h
end CL2
