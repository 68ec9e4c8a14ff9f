/-! THE START: the small machine's heap, of the state at the law's entry -/
def nBusy : Nat → Int32 := fun j => match j with
  | 0 => 4
  | 1 => 8
  | _ => 6
def nH0 (L : Nat) (xs : Nat → Int32) : mH := [some (.inl (4, L, .inl xs)), some (.inl (4, 3, .inl nBusy)), none, none, none]
def nZv (v3 v4 : Value) : List (String × String × String × Value) := [("java/lang/Throwable", "UNASSIGNED_STACK", "[Ljava/lang/StackTraceElement;", v3), ("java/lang/Throwable", "SUPPRESSED_SENTINEL", "Ljava/util/List;", v4)]
def nGv : List Cond := flatC (Jvm.Cond.and given_1 narrow_1)
set_option maxRecDepth 100000 in
theorem nInst : nCl.all (fun q => nTb.any (fun w => match w with
  | .instantiable C _ => C == q.1
  | _ => false)) = true := by decide +kernel
set_option maxRecDepth 100000 in
theorem nStrs_tb : nStrs.all (fun q => decide (Cond.stringRef q.1 q.2.1 q.2.2 ∈ nTb)) = true := by decide +kernel
set_option maxRecDepth 100000 in
theorem nStrs_gv : nStrs.all (fun q => decide (Cond.exactly (.string q.1 q.2.1) "java/lang/String" ∈ nGv)) = true := by decide +kernel
set_option maxRecDepth 100000 in
theorem nNcs_gv : nNcs.all (fun q => decide (Cond.not (.castable (nEX q.1) (nEX q.2)) ∈ nGv)) = true := by decide +kernel
set_option maxRecDepth 100000 in
theorem nArr_tb : ([.int, .long, .char, .boolean] : List FieldType).all (fun t => decide (Cond.arrayClass t ∈ nTb)) = true := by decide +kernel
set_option maxRecDepth 100000 in
theorem nSt_tb : ([Cond.laysStatic "MixMachine$Units" "BUSY_STEPS" "[I", .initialized "MixMachine$Units", .laysStatic "MixMachine$Operation" "NOP" "LMixMachine$Operation;", .initialized "MixMachine$Operation", mUnasL, mSentL, .initialized "java/lang/Throwable"] : List Cond).all (fun w => decide (w ∈ nTb)) = true := by decide +kernel
abbrev nBt : Term := .static "MixMachine$Units" "BUSY_STEPS" "[I"
set_option maxRecDepth 100000 in
theorem nSt_gv : ([Cond.arrayOf nBt .int, .eq (.length nBt) (.int 3), .eq (.elem nBt (.int 0)) (.int 4), .eq (.elem nBt (.int 1)) (.int 8), .eq (.elem nBt (.int 2)) (.int 6), .exactly (.static "MixMachine$Operation" "NOP" "LMixMachine$Operation;") "MixMachine$Operation", mUnas, mSent] : List Cond).all (fun w => decide (w ∈ nGv)) = true := by decide +kernel
theorem nMem {l r : List Cond} (h : l.all (fun w => decide (w ∈ r)) = true) {w : Cond} (hw : w ∈ l) : w ∈ r := of_decide_eq_true (List.all_eq_true.mp h w hw)
theorem mRefV {args : Array Value} {s : State} {C n d : String} (h : (Cond.isRef (.static C n d)).before args s = true) : (Term.static C n d).eval args s none [] s = some .null ∨ ∃ t, (Term.static C n d).eval args s none [] s = some (.ref t) := by
  cases hv : (Term.static C n d).eval args s none [] s with
  | none => simp [Cond.before, Cond.holds, Cond.value, hv] at h
  | some w =>
    simp only [Cond.before, Cond.holds, Cond.value, hv] at h
    cases w with
    | null => exact Or.inl rfl
    | ref t => exact Or.inr ⟨t, rfl⟩
    | _ => simp at h
/-- where the cells lie -/
def nAd (sz a0 a1 a2 a3 a4 : Nat) : Nat → Nat := fun i => match i with
  | 0 => a0
  | 1 => a1
  | 2 => a2
  | 3 => a3
  | 4 => a4
  | i + 5 => sz + i
theorem nAd_ok {sz a0 a1 a2 a3 a4 : Nat} (h0 : a0 < sz) (h1 : a1 < sz) (h2 : a2 < sz) (h3 : a3 < sz) (h4 : a4 < sz) : mAd 5 sz (nAd sz a0 a1 a2 a3 a4) := by
  refine ⟨fun i hi => ?_, fun i hi => ?_, fun i j hi => absurd hi (Nat.not_lt_zero _)⟩
  · match i, hi with
    | 0, _ => exact h0
    | 1, _ => exact h1
    | 2, _ => exact h2
    | 3, _ => exact h3
    | 4, _ => exact h4
  · match i, hi with
    | i + 5, _ => show sz + i = sz + (i + 5 - 5); omega
/-- a reference of the machine's, as the small machine's: k its place, if it's old -/
def nRv (sz k b : Nat) (v : Value) : Nat × Value := match v with
  | .ref t => if t < sz then (t, .ref k) else (b, .ref (5 + (t - sz)))
  | v => (b, v)
theorem nRv_lt {sz k b : Nat} {v : Value} (hb : b < sz) : (nRv sz k b v).1 < sz := by
  unfold nRv
  split
  · split
    · assumption
    · exact hb
  · exact hb
theorem nRv_eq (sz k b t : Nat) : nRv sz k b (.ref t) = if t < sz then (t, .ref k) else (b, .ref (5 + (t - sz))) := rfl
theorem nRv_ad {sz k b : Nat} {v : Value} {ad : Nat → Nat} (hv : v = .null ∨ ∃ t, v = .ref t) (h1 : ad k = (nRv sz k b v).1) (h2 : ∀ i, ad (5 + i) = sz + i) : mT ad (nRv sz k b v).2 = v := by
  rcases hv with rfl | ⟨t, rfl⟩
  · rfl
  · rw [nRv_eq] at h1 ⊢
    by_cases hlt : t < sz
    · rw [if_pos hlt] at h1 ⊢
      exact congrArg Value.ref h1
    · rw [if_neg hlt]
      exact congrArg Value.ref ((h2 (t - sz)).trans (Nat.add_sub_of_le (Nat.not_lt.mp hlt)))
theorem nRv_ref {sz k b : Nat} {v : Value} (hv : v = .null ∨ ∃ t, v = .ref t) : (nRv sz k b v).2 = .null ∨ ∃ t, (nRv sz k b v).2 = .ref t := by
  rcases hv with rfl | ⟨t, rfl⟩
  · exact Or.inl rfl
  · rw [nRv_eq]
    by_cases hlt : t < sz
    · rw [if_pos hlt]
      exact Or.inr ⟨_, rfl⟩
    · rw [if_neg hlt]
      exact Or.inr ⟨_, rfl⟩
set_option maxHeartbeats 2000000 in
theorem nStart {s : State} {args : Array Value} {b L : Nat} {xs : Nat → Int32} (hts : ∀ w ∈ nTb, w.before args s = true) (hX : va_X b L xs s s.heap) (hb : b < s.heap.size) (hg : (Jvm.Cond.and given_1 narrow_1).before args s = true) :
    ∃ (D : va_G) (tyC : Nat → ClassId) (ad : Nat → Nat) (v3 v4 : Value), mAd 5 s.heap.size ad ∧ ad 0 = b ∧ (v3 = .null ∨ ∃ t, v3 = .ref t) ∧ (v4 = .null ∨ ∃ t, v4 = .ref t) ∧ mOK D nCl tyC 5 s.heap.size ad (nZ0 ++ nZv v3 v4) s (nH0 L xs) s.heap ∧ mK2 nStrs nNcs nEX s := by
  have hgv : ∀ w ∈ nGv, w.before args s = true := flat_of_before _ hg
  have hA : ∀ a : Nat, a < s.heap.size → ¬ mNew s.heap.size a := fun a h1 h2 => absurd h1 (Nat.not_lt.mpr h2)
  -- the classes
  have hcls : ∀ c : Nat, ∃ r : ClassId × (Nat → Nat), ∀ q : vw_C, nCl[c]? = some q → u_Kn s q.1 q.2.1 q.2.2 r.1 r.2 := fun c => by
    cases hq : nCl[c]? with
    | none => exact ⟨(0, fun _ => 0), fun q h => by cases h⟩
    | some q =>
      obtain ⟨w, hw, hw1⟩ := List.any_eq_true.mp (List.all_eq_true.mp nInst q (List.mem_of_getElem? hq))
      obtain ⟨C, T, N⟩ := q
      dsimp only at hw1
      split at hw1
      · rename_i C' n
        have hC : C' = C := by simpa using hw1
        subst hC
        obtain ⟨k1, -, -⟩ := kCl_ok (List.all_eq_true.mp nCl_ok _ (List.mem_of_getElem? hq))
        obtain ⟨cC, iS, hk⟩ := u_known (ws := mTs' nTb) (fun w hw => hts w (List.mem_filter.mp hw).1) k1 (hts _ hw)
        exact ⟨(cC, iS), fun q h => by cases h; exact hk⟩
      · cases hw1
  obtain ⟨f, hf⟩ := Classical.axiomOfChoice hcls
  -- the arrays
  have harr : ∀ t ∈ ([.int, .long, .char, .boolean] : List FieldType), ∃ cA : ClassId, ArrOfT s cA t ∧ s.vm.findClass ("[" ++ t.toString) = some cA := fun t ht => by
    obtain ⟨c, k, comp, h1, h2, h3⟩ := Cond.arrayClass_spec (hts _ (of_decide_eq_true (List.all_eq_true.mp nArr_tb t ht)))
    exact ⟨c, fun n z => ⟨fun _ h => (by cases h), k, h2, comp, h3⟩, h1⟩
  obtain ⟨ci, ci1, ci2⟩ := harr .int (by decide)
  obtain ⟨cj, cj1, cj2⟩ := harr .long (by decide)
  obtain ⟨cc, cc1, cc2⟩ := harr .char (by decide)
  obtain ⟨cz, cz1, cz2⟩ := harr .boolean (by decide)
  -- the statics
  have gv : ∀ {w : Cond}, w ∈ ([Cond.arrayOf nBt .int, .eq (.length nBt) (.int 3), .eq (.elem nBt (.int 0)) (.int 4), .eq (.elem nBt (.int 1)) (.int 8), .eq (.elem nBt (.int 2)) (.int 6), .exactly (.static "MixMachine$Operation" "NOP" "LMixMachine$Operation;") "MixMachine$Operation", mUnas, mSent] : List Cond) → w.before args s = true := fun hw => hgv _ (nMem nSt_gv hw)
  have tb : ∀ {w : Cond}, w ∈ ([Cond.laysStatic "MixMachine$Units" "BUSY_STEPS" "[I", .initialized "MixMachine$Units", .laysStatic "MixMachine$Operation" "NOP" "LMixMachine$Operation;", .initialized "MixMachine$Operation", mUnasL, mSentL, .initialized "java/lang/Throwable"] : List Cond) → w.before args s = true := fun hw => hts _ (nMem nSt_tb hw)
  obtain ⟨t1, ht1, cell1, e1, e2, e3, e4, e5, e6, -⟩ := va_Tof (tm := nBt) (ty := .int) (N := 3) (f := fun j => .int (nBusy j)) (A := mNew s.heap.size) (by decide) (gv (by simp)) (va_eqt (gv (by simp))) (fun j hj => by
    match j, hj with
    | 0, _ => exact va_eqt (z := 4) (gv (w := .eq (.elem nBt (.int 0)) (.int 4)) (by simp))
    | 1, _ => exact va_eqt (z := 8) (gv (w := .eq (.elem nBt (.int 1)) (.int 8)) (by simp))
    | 2, _ => exact va_eqt (z := 6) (gv (w := .eq (.elem nBt (.int 2)) (.int 6)) (by simp))) hA
  obtain ⟨t2, -, cell2, -, ht2, -, e7, -⟩ := Cond.exactly_spec (gv (w := .exactly (.static "MixMachine$Operation" "NOP" "LMixMachine$Operation;") "MixMachine$Operation") (by simp))
  have hv3 : ∃ v, (Term.static "java/lang/Throwable" "UNASSIGNED_STACK" "[Ljava/lang/StackTraceElement;").eval args s none [] s = some v ∧ (v = .null ∨ ∃ t, v = .ref t) := (mRefV (gv (w := mUnas) (by simp))).elim (fun h => ⟨_, h, Or.inl rfl⟩) (fun ⟨t, h⟩ => ⟨_, h, Or.inr ⟨t, rfl⟩⟩)
  have hv4 : ∃ v, (Term.static "java/lang/Throwable" "SUPPRESSED_SENTINEL" "Ljava/util/List;").eval args s none [] s = some v ∧ (v = .null ∨ ∃ t, v = .ref t) := (mRefV (gv (w := mSent) (by simp))).elim (fun h => ⟨_, h, Or.inl rfl⟩) (fun ⟨t, h⟩ => ⟨_, h, Or.inr ⟨t, rfl⟩⟩)
  obtain ⟨v3, h3, h3r⟩ := hv3
  obtain ⟨v4, h4, h4r⟩ := hv4
  have l1 : t1 < s.heap.size := (Array.getElem?_eq_some_iff.mp e1).1
  have l2 : t2 < s.heap.size := (Array.getElem?_eq_some_iff.mp e7).1
  refine ⟨(fun c => (f c).1, fun c => (f c).2), fun t => match t with
    | 0 => ci
    | 1 => cj
    | 2 => cc
    | _ => cz, nAd s.heap.size b t1 t2 (nRv s.heap.size 3 b v3).1 (nRv s.heap.size 4 b v4).1, (nRv s.heap.size 3 b v3).2, (nRv s.heap.size 4 b v4).2, nAd_ok hb l1 l2 (nRv_lt hb) (nRv_lt hb), rfl, nRv_ref h3r, nRv_ref h4r, ⟨⟨fun c q hq => hf c q hq, fun k q hk => ?_⟩, ⟨Nat.le_refl 5, fun i h1 h2 => absurd h2 (Nat.not_lt.mpr h1)⟩, rfl, fun i c hc => ?_, fun z hz => ?_⟩, fun q hq => ?_, fun q hq => ?_⟩
  · match k, hk with
    | 0, hk => cases hk; exact ⟨ci1, ci2⟩
    | 1, hk => cases hk; exact ⟨cj1, cj2⟩
    | 2, hk => cases hk; exact ⟨cc1, cc2⟩
    | 3, hk => cases hk; exact ⟨cz1, cz2⟩
    | k + 4, hk => cases hk
  · match i, hc with
    | 0, hc =>
      cases hc
      obtain ⟨scr, x1, x2, x3, x4, x5⟩ := hX
      exact ⟨scr, x1, x2, x3, by omega, by rw [x4], x5⟩
    | 1, hc =>
      cases hc
      exact ⟨cell1, e1, e2, e3, e4, e5, e6⟩
    | 2, hc => cases hc
    | 3, hc => cases hc
    | 4, hc => cases hc
    | i + 5, hc => cases hc
  · simp only [nZ0, nZv, List.cons_append, List.nil_append, List.mem_cons, List.not_mem_nil, or_false] at hz
    rcases hz with rfl | rfl | rfl | rfl
    · exact mZ.of (tb (by simp)) (tb (by simp)) ht1 hA
    · exact mZ.of (tb (by simp)) (tb (by simp)) ht2 hA
    · dsimp only
      rw [nRv_ad h3r rfl (fun i => by rw [Nat.add_comm]; rfl)]
      exact mZ.of (tb (w := mUnasL) (by simp)) (tb (by simp)) h3 hA
    · dsimp only
      rw [nRv_ad h4r rfl (fun i => by rw [Nat.add_comm]; rfl)]
      exact mZ.of (tb (w := mSentL) (by simp)) (tb (by simp)) h4 hA
  · obtain ⟨a, -, -, -, ha, -⟩ := Cond.exactly_spec (hgv _ (of_decide_eq_true (List.all_eq_true.mp nStrs_gv q hq)))
    exact ⟨a, vk_R.of (hts _ (of_decide_eq_true (List.all_eq_true.mp nStrs_tb q hq))) ha⟩
  · exact va_Nc.of (hgv _ (of_decide_eq_true (List.all_eq_true.mp nNcs_gv q hq)))
