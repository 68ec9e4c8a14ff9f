/-! THE START: the small machine's heap, of the state at the law's entry -/
def nOp (k : Nat) : String × Nat × Int32 × Int32 := nOps.getD k ("", 0, 0, 0)
def nSo (k : Nat) : Term := .static "MixMachine$Operation" (nOp k).1 "LMixMachine$Operation;"
def nSg (k : Nat) : Term := .string "MixMachine$Operation" (if k = 50 then 198 else (nOp k).2.1)
def nSv (k : Nat) : Term := .field (nSg k) "java/lang/String" "value" "[B"
def nSa : Term := .static "MixMachine$Operation" "ALL" "[LMixMachine$Operation;"
def nBy (k : Nat) : List Int32 := nByt.getD k []
/-- the premises that are used -/
def nCd (q : Nat × Nat × Nat) : Cond := match q.1 with
  | 0 => .exactly (nSo q.2.1) "MixMachine$Operation"
  | 1 => .eq (.field (nSo q.2.1) "java/lang/Enum" "ordinal" "I") (.int (Int32.ofNat q.2.1))
  | 2 => .eq (.field (nSo q.2.1) "MixMachine$Operation" "pattern" "Ljava/lang/String;") (nSg q.2.1)
  | 3 => .eq (.field (nSo q.2.1) "MixMachine$Operation" "code" "I") (.int (nOp q.2.1).2.2.1)
  | 4 => .eq (.field (nSo q.2.1) "MixMachine$Operation" "f" "I") (.int (nOp q.2.1).2.2.2)
  | 5 => .exactly (nSg q.2.1) "java/lang/String"
  | 6 => .eq (.field (nSg q.2.1) "java/lang/String" "coder" "B") (.int 0)
  | 7 => .arrayOf (nSv q.2.1) .byte
  | 8 => .eq (.length (nSv q.2.1)) (.int (Int32.ofNat (nBy q.2.1).length))
  | 9 => .eq (.elem (nSv q.2.1) (.int (Int32.ofNat q.2.2))) (.int ((nBy q.2.1).getD q.2.2 0))
  | 10 => .eq (.elem nSa (.int (Int32.ofNat q.2.1))) (nSo q.2.1)
  | 11 => .arrayOf nSa (.object "MixMachine$Operation")
  | _ => .eq (.length nSa) (.int 50)
def kSub : List Cond → List Cond → Bool
  | [], _ => true
  | _ :: _, [] => false
  | a :: l, b :: r => if a = b then kSub l r else kSub (a :: l) r
theorem kSub_ok : ∀ (l r : List Cond), kSub l r = true → ∀ w ∈ l, w ∈ r
  | [], _, _, w, hw => by cases hw
  | a :: l, [], h, w, hw => by cases h
  | a :: l, b :: r, h, w, hw => by
    unfold kSub at h
    split at h
    · rename_i hab
      rcases List.mem_cons.mp hw with rfl | hw
      · rw [hab]; exact List.mem_cons_self
      · exact List.mem_cons_of_mem _ (kSub_ok l r h w hw)
    · exact List.mem_cons_of_mem _ (kSub_ok (a :: l) r h w hw)
def nGv : List Cond := flatC (Jvm.Cond.and given_1 narrow_1)
set_option maxRecDepth 100000 in
theorem nCs_ok : kSub (nCs.map nCd) nGv = true := by decide +kernel
/-- all that is wanted stands among them -/
def nAll : Bool := (List.range 50).all (fun k => [0, 1, 2, 3, 4, 10].all (fun a => nCs.contains (a, k, 0))) && ((List.range 51).all (fun k => [5, 6, 7, 8].all (fun a => nCs.contains (a, k, 0)) && (List.range (nBy k).length).all (fun j => nCs.contains (9, k, j))) && (nCs.contains (11, 0, 0) && nCs.contains (12, 0, 0)))
set_option maxRecDepth 100000 in
theorem nAll_ok : nAll = true := by decide +kernel
theorem nPr {args : Array Value} {s : State} (hgv : ∀ w ∈ nGv, w.before args s = true) {q : Nat × Nat × Nat} (hq : nCs.contains q = true) : (nCd q).before args s = true := hgv _ (kSub_ok _ _ nCs_ok _ (List.mem_map.mpr ⟨q, List.contains_iff_mem.mp hq, rfl⟩))
theorem nPo {a k : Nat} (ha : a ∈ [0, 1, 2, 3, 4, 10]) (hk : k < 50) : nCs.contains (a, k, 0) = true := by
  have h := nAll_ok
  unfold nAll at h
  rw [Bool.and_eq_true] at h
  exact List.all_eq_true.mp (List.all_eq_true.mp h.1 k (List.mem_range.mpr hk)) a ha
theorem nPs {a k : Nat} (ha : a ∈ [5, 6, 7, 8]) (hk : k < 51) : nCs.contains (a, k, 0) = true := by
  have h := nAll_ok
  unfold nAll at h
  rw [Bool.and_eq_true, Bool.and_eq_true] at h
  have h2 := List.all_eq_true.mp h.2.1 k (List.mem_range.mpr hk)
  rw [Bool.and_eq_true] at h2
  exact List.all_eq_true.mp h2.1 a ha
theorem nPb {k j : Nat} (hk : k < 51) (hj : j < (nBy k).length) : nCs.contains (9, k, j) = true := by
  have h := nAll_ok
  unfold nAll at h
  rw [Bool.and_eq_true, Bool.and_eq_true] at h
  have h2 := List.all_eq_true.mp h.2.1 k (List.mem_range.mpr hk)
  rw [Bool.and_eq_true] at h2
  exact List.all_eq_true.mp h2.2 j (List.mem_range.mpr hj)
theorem nPa : nCs.contains (11, 0, 0) = true ∧ nCs.contains (12, 0, 0) = true := by
  have h := nAll_ok
  unfold nAll at h
  rw [Bool.and_eq_true, Bool.and_eq_true, Bool.and_eq_true] at h
  exact h.2.2
def nBusy : Nat → Int32 := fun j => match j with
  | 0 => 4
  | 1 => 8
  | _ => 6
def nSix (k : Nat) : Nat := if k = 50 then 53 else 55 + 2 * k
def nStr (k : Nat) : mC := some (.inr (14, [.ref (nSix k + 1), .int 0]))
def nBa (k : Nat) : mC := some (.inl (7, (nBy k).length, .inl (fun j => (nBy k).getD j 0)))
/-- the old cells: 0 the script, 1 BUSY_STEPS, 2 to 51 the operations, 52 ALL, 53 the registers' names, 54 their bytes, from 55 the patterns and their bytes, 155 to 157 three that nobody looks into -/
def nCell (L : Nat) (xs : Nat → Int32) (i : Nat) : mC :=
  if i = 0 then some (.inl (4, L, .inl xs)) else if i = 1 then some (.inl (4, 3, .inl nBusy))
  else if i < 52 then some (.inr (13, [.ref (nSix (i - 2)), .int (nOp (i - 2)).2.2.1, .int (nOp (i - 2)).2.2.2]))
  else if i = 52 then some (.inl (6, 50, .inr (.inr (.inr (.inr (fun j => some (j + 2)))))))
  else if i = 53 then nStr 50 else if i = 54 then nBa 50
  else if i < 155 then (if (i - 55) % 2 = 0 then nStr ((i - 55) / 2) else nBa ((i - 55) / 2)) else none
def nOld (L : Nat) (xs : Nat → Int32) : mH := (List.range 158).map (nCell L xs)
def nAd (sz b a1 : Nat) (aO aS aB : Nat → Nat) (aA a3 a4 a5 : Nat) (i : Nat) : Nat :=
  if i = 0 then b else if i = 1 then a1 else if i < 52 then aO (i - 2) else if i = 52 then aA else if i = 53 then aS 50 else if i = 54 then aB 50
  else if i < 155 then (if (i - 55) % 2 = 0 then aS ((i - 55) / 2) else aB ((i - 55) / 2)) else if i = 155 then a3 else if i = 156 then a4 else if i = 157 then a5 else sz + (i - 158)
theorem nAd_S {sz b a1 : Nat} {aO aS aB : Nat → Nat} {aA a3 a4 a5 k : Nat} (hk : k < 51) : nAd sz b a1 aO aS aB aA a3 a4 a5 (nSix k) = aS k ∧ nAd sz b a1 aO aS aB aA a3 a4 a5 (nSix k + 1) = aB k := by
  unfold nSix
  by_cases h : k = 50
  · subst h
    exact ⟨rfl, rfl⟩
  · rw [if_neg h]
    unfold nAd
    refine ⟨?_, ?_⟩
    · rw [if_neg (by omega), if_neg (by omega), if_neg (by omega), if_neg (by omega), if_neg (by omega), if_neg (by omega), if_pos (by omega), if_pos (by omega)]
      congr 1
      omega
    · rw [if_neg (by omega), if_neg (by omega), if_neg (by omega), if_neg (by omega), if_neg (by omega), if_neg (by omega), if_pos (by omega), if_neg (by omega)]
      congr 1
      omega
theorem nAd_O {sz b a1 : Nat} {aO aS aB : Nat → Nat} {aA a3 a4 a5 k : Nat} (hk : k < 50) : nAd sz b a1 aO aS aB aA a3 a4 a5 (k + 2) = aO k := by
  unfold nAd
  rw [if_neg (by omega), if_neg (by omega), if_pos (by omega), Nat.add_sub_cancel]
theorem mOF.of {args : Array Value} {s : State} {t : Term} {a : Nat} {o n d : String} {v : Value} (ht : t.eval args s none [] s = some (.ref a)) (hv : (Term.field t o n d).eval args s none [] s = some v) : mOF o n d v a s s.heap := by
  obtain ⟨cf, k, fi, f, cell, h1, h2, h3, h4, h5, -⟩ := vk_OFof (A := fun _ => False) ht hv (fun _ _ h => h)
  exact ⟨cf, k, fi, f, cell, h1, h2, h3, h4, h5⟩
def nZv (v3 v4 v5 : Value) : List (String × String × String × Value) := [("java/lang/Throwable", "UNASSIGNED_STACK", "[Ljava/lang/StackTraceElement;", v3), ("java/lang/Throwable", "SUPPRESSED_SENTINEL", "Ljava/util/List;", v4), ("jdk/internal/util/Preconditions", "SIOOBE_FORMATTER", "Ljava/util/function/BiFunction;", v5)]
set_option maxRecDepth 100000 in
theorem nInst : nCl.all (fun q => nTb.any (fun w => match w with
  | .instantiable C _ => C == q.1
  | _ => false)) = true := by decide +kernel
set_option maxRecDepth 100000 in
theorem nStrs_tb : nStrs.all (fun q => nTb.any (fun v => kPre v (.stringRef q.1 q.2.1 q.2.2) && decide (v = .stringRef q.1 q.2.1 q.2.2))) = true := by decide +kernel
set_option maxRecDepth 100000 in
theorem nStrs_gv : nStrs.all (fun q => decide (Cond.exactly (.string q.1 q.2.1) "java/lang/String" ∈ nGv)) = true := by decide +kernel
set_option maxRecDepth 100000 in
theorem nNcs_gv : nNcs.all (fun q => decide (Cond.not (.castable (nEX q.1) (nEX q.2)) ∈ nGv)) = true := by decide +kernel
set_option maxRecDepth 100000 in
theorem nArr_tb : ([.int, .long, .char, .boolean] : List FieldType).all (fun t => decide (Cond.arrayClass t ∈ nTb)) = true := by decide +kernel
abbrev nFmL : Cond := .laysStatic "jdk/internal/util/Preconditions" "SIOOBE_FORMATTER" "Ljava/util/function/BiFunction;"
abbrev nFm : Cond := .isRef (.static "jdk/internal/util/Preconditions" "SIOOBE_FORMATTER" "Ljava/util/function/BiFunction;")
abbrev nLo (n : String) : Cond := .laysStatic "MixMachine$Operation" n "LMixMachine$Operation;"
abbrev nW1 : List Cond := [Cond.laysStatic "MixMachine$Units" "BUSY_STEPS" "[I", .initialized "MixMachine$Units", .initialized "MixMachine$Operation", .laysStatic "MixMachine$Operation" "ALL" "[LMixMachine$Operation;", nLo "NOP", nLo "EQU", nLo "ORIG", nLo "CON", nLo "END", .laysStatic "java/lang/String" "COMPACT_STRINGS" "Z", .initialized "java/lang/String", nFmL, .initialized "jdk/internal/util/Preconditions", mUnasL, mSentL, .initialized "java/lang/Throwable", .stringRef "MixMachine$Operation" 198 "A123456X"]
set_option maxRecDepth 100000 in
theorem nSt_tb : nW1.all (fun w => decide (w ∈ nTb)) = true := by decide +kernel
abbrev nBt : Term := .static "MixMachine$Units" "BUSY_STEPS" "[I"
abbrev nW2 : List Cond := [Cond.arrayOf nBt .int, .eq (.length nBt) (.int 3), .eq (.elem nBt (.int 0)) (.int 4), .eq (.elem nBt (.int 1)) (.int 8), .eq (.elem nBt (.int 2)) (.int 6), .eq (.static "java/lang/String" "COMPACT_STRINGS" "Z") (.int 1), mUnas, mSent, nFm]
set_option maxRecDepth 100000 in
theorem nSt_gv : nW2.all (fun w => decide (w ∈ nGv)) = true := by decide +kernel
theorem nMem {l r : List Cond} (h : l.all (fun w => decide (w ∈ r)) = true) {w : Cond} (hw : w ∈ l) : w ∈ r := of_decide_eq_true (List.all_eq_true.mp h w hw)
theorem mRefV {args : Array Value} {s : State} {C n d : String} (h : (Cond.isRef (.static C n d)).before args s = true) : (Term.static C n d).eval args s none [] s = some .null ∨ ∃ t, (Term.static C n d).eval args s none [] s = some (.ref t) := by
  cases hv : (Term.static C n d).eval args s none [] s with
  | none => simp [Cond.before, Cond.holds, Cond.value, hv] at h
  | some w =>
    simp only [Cond.before, Cond.holds, Cond.value, hv] at h
    cases w with
    | null => exact Or.inl rfl
    | ref t => exact Or.inr ⟨t, rfl⟩
    | _ => simp at h
def nRv (sz k b : Nat) (v : Value) : Nat × Value := match v with
  | .ref t => if t < sz then (t, .ref k) else (b, .ref (158 + (t - sz)))
  | v => (b, v)
theorem nRv_lt {sz k b : Nat} {v : Value} (hb : b < sz) : (nRv sz k b v).1 < sz := by
  unfold nRv
  split
  · split
    · assumption
    · exact hb
  · exact hb
theorem nRv_eq (sz k b t : Nat) : nRv sz k b (.ref t) = if t < sz then (t, .ref k) else (b, .ref (158 + (t - sz))) := rfl
theorem nRv_ad {sz k b : Nat} {v : Value} {ad : Nat → Nat} (hv : v = .null ∨ ∃ t, v = .ref t) (h1 : ad k = (nRv sz k b v).1) (h2 : ∀ i, ad (158 + i) = sz + i) : mT ad (nRv sz k b v).2 = v := by
  rcases hv with rfl | ⟨t, rfl⟩
  · rfl
  · rw [nRv_eq] at h1 ⊢
    by_cases hlt : t < sz
    · rw [if_pos hlt] at h1 ⊢
      exact congrArg Value.ref h1
    · rw [if_neg hlt]
      exact congrArg Value.ref ((h2 (t - sz)).trans (Nat.add_sub_of_le (Nat.not_lt.mp hlt)))
theorem nRv_ref {sz k b : Nat} {v : Value} (hv : v = .null ∨ ∃ t, v = .ref t) : (nRv sz k b v).2 = .null ∨ ∃ t, (nRv sz k b v).2 = .ref t := by
  rcases hv with rfl | ⟨t, rfl⟩
  · exact Or.inl rfl
  · rw [nRv_eq]
    by_cases hlt : t < sz
    · rw [if_pos hlt]
      exact Or.inr ⟨_, rfl⟩
    · rw [if_neg hlt]
      exact Or.inr ⟨_, rfl⟩
theorem nOrd : ∀ k k' : Fin 50, Int32.ofNat k.val = Int32.ofNat k'.val → k = k' := by decide +kernel
theorem nBl : ∀ k : Fin 51, (nBy k.val).length < 100 := by decide +kernel
set_option maxHeartbeats 4000000 in
theorem nStart {s : State} {args : Array Value} {b L : Nat} {xs : Nat → Int32} (hts : ∀ w ∈ nTb, w.before args s = true) (hX : va_X b L xs s s.heap) (hb : b < s.heap.size) (hg : (Jvm.Cond.and given_1 narrow_1).before args s = true) :
    ∃ (D : va_G) (tyC : Nat → ClassId) (ad : Nat → Nat) (v3 v4 v5 : Value), mAd 158 s.heap.size ad ∧ ad 0 = b ∧ (v3 = .null ∨ ∃ t, v3 = .ref t) ∧ (v4 = .null ∨ ∃ t, v4 = .ref t) ∧ (v5 = .null ∨ ∃ t, v5 = .ref t) ∧ mOK D nCl tyC 158 s.heap.size ad (nZ0 ++ nZv v3 v4 v5) s (nOld L xs) s.heap ∧ mK2 ad nStrs nNcs nEX s := by
  have hgv : ∀ w ∈ nGv, w.before args s = true := flat_of_before _ hg
  have hA : ∀ a : Nat, a < s.heap.size → ¬ mNew s.heap.size a := fun a h1 h2 => absurd h1 (Nat.not_lt.mpr h2)
  have hcls : ∀ c : Nat, ∃ r : ClassId × (Nat → Nat), ∀ q : vw_C, nCl[c]? = some q → u_Kn s q.1 q.2.1 q.2.2 r.1 r.2 := fun c => by
    cases hq : nCl[c]? with
    | none => exact ⟨(0, fun _ => 0), fun q h => by cases h⟩
    | some q =>
      obtain ⟨w, hw, hw1⟩ := List.any_eq_true.mp (List.all_eq_true.mp nInst q (List.mem_of_getElem? hq))
      obtain ⟨C, T, N⟩ := q
      dsimp only at hw1
      split at hw1
      · rename_i C' n
        have hC : C' = C := by simpa using hw1
        subst hC
        obtain ⟨k1, -, -⟩ := kCl_ok (S := kM nTb) (Ts := mTs' nTb) (fun _ h => kM_ok h) (List.all_eq_true.mp nCl_ok _ (List.mem_of_getElem? hq))
        obtain ⟨cC, iS, hk⟩ := u_known (ws := mTs' nTb) (fun w hw => hts w (List.mem_filter.mp hw).1) k1 (hts _ hw)
        exact ⟨(cC, iS), fun q h => by cases h; exact hk⟩
      · cases hw1
  obtain ⟨f, hf⟩ := Classical.axiomOfChoice hcls
  have harr : ∀ t ∈ ([.int, .long, .char, .boolean] : List FieldType), ∃ cA : ClassId, ArrOfT s cA t ∧ s.vm.findClass ("[" ++ t.toString) = some cA := fun t ht => by
    obtain ⟨c, k, comp, h1, h2, h3⟩ := Cond.arrayClass_spec (hts _ (of_decide_eq_true (List.all_eq_true.mp nArr_tb t ht)))
    exact ⟨c, fun n z => ⟨fun _ h => (by cases h), k, h2, comp, h3⟩, h1⟩
  obtain ⟨ci, ci1, ci2⟩ := harr .int (by decide)
  obtain ⟨cj, cj1, cj2⟩ := harr .long (by decide)
  obtain ⟨cc, cc1, cc2⟩ := harr .char (by decide)
  obtain ⟨cz, cz1, cz2⟩ := harr .boolean (by decide)
  have gv : ∀ {w : Cond}, w ∈ nW2 → w.before args s = true := fun hw => hgv _ (nMem nSt_gv hw)
  have tb : ∀ {w : Cond}, w ∈ nW1 → w.before args s = true := fun hw => hts _ (nMem nSt_tb hw)
  -- BUSY_STEPS
  obtain ⟨t1, ht1, cell1, e1, e2, e3, e4, e5, e6, -⟩ := va_Tof (tm := nBt) (ty := .int) (N := 3) (f := fun j => .int (nBusy j)) (A := mNew s.heap.size) (by decide) (gv (by simp)) (va_eqt (gv (by simp))) (fun j hj => by
    match j, hj with
    | 0, _ => exact va_eqt (z := 4) (gv (w := .eq (.elem nBt (.int 0)) (.int 4)) (by simp))
    | 1, _ => exact va_eqt (z := 8) (gv (w := .eq (.elem nBt (.int 1)) (.int 8)) (by simp))
    | 2, _ => exact va_eqt (z := 6) (gv (w := .eq (.elem nBt (.int 2)) (.int 6)) (by simp))) hA
  have l1 : t1 < s.heap.size := (Array.getElem?_eq_some_iff.mp e1).1
  -- the operations
  have hO0 : ∀ k : Nat, ∃ a : Nat, k < 50 → (nSo k).eval args s none [] s = some (.ref a) ∧ a < s.heap.size ∧ ∃ cell : Cell, s.heap[a]? = some cell ∧ cell.vm.isStatics = false ∧ s.vm.findClass "MixMachine$Operation" = some cell.cls := fun k => by
    by_cases hk : k < 50
    · obtain ⟨a, c, cell, kk, q1, q2, q3, q4, q5, q6, -⟩ := Cond.exactly_spec (nPr hgv (nPo (a := 0) (by simp) hk))
      exact ⟨a, fun _ => ⟨q1, (Array.getElem?_eq_some_iff.mp q3).1, cell, q3, q5, by rw [q6]; exact q2⟩⟩
    · exact ⟨0, fun h => absurd h hk⟩
  obtain ⟨aO, hO⟩ := Classical.axiomOfChoice hO0
  -- the Strings
  have hS0 : ∀ k : Nat, ∃ a : Nat, k < 51 → (nSg k).eval args s none [] s = some (.ref a) ∧ a < s.heap.size ∧ ∃ cell : Cell, s.heap[a]? = some cell ∧ cell.vm.isStatics = false ∧ s.vm.findClass "java/lang/String" = some cell.cls := fun k => by
    by_cases hk : k < 51
    · obtain ⟨a, c, cell, kk, q1, q2, q3, q4, q5, q6, -⟩ := Cond.exactly_spec (nPr hgv (nPs (a := 5) (by simp) hk))
      exact ⟨a, fun _ => ⟨q1, (Array.getElem?_eq_some_iff.mp q3).1, cell, q3, q5, by rw [q6]; exact q2⟩⟩
    · exact ⟨0, fun h => absurd h hk⟩
  obtain ⟨aS, hS⟩ := Classical.axiomOfChoice hS0
  have hB0 : ∀ k : Nat, ∃ a : Nat, k < 51 → (nSv k).eval args s none [] s = some (.ref a) ∧ a < s.heap.size ∧ mOld .byte a (nBy k).length (fun j => .int ((nBy k).getD j 0)) s s.heap := fun k => by
    by_cases hk : k < 51
    · obtain ⟨t, ht, cell, g1, g2, g3, g4, g5, g6, -⟩ := va_Tof (tm := nSv k) (ty := .byte) (N := (nBy k).length) (f := fun j => .int ((nBy k).getD j 0)) (A := mNew s.heap.size) (by have := nBl ⟨k, hk⟩; have h2 : (nBy k).length < 100 := this; omega) (nPr hgv (nPs (a := 7) (by simp) hk)) (va_eqt (nPr hgv (nPs (a := 8) (by simp) hk))) (fun j hj => va_eqt (nPr hgv (nPb hk hj))) hA
      exact ⟨t, fun _ => ⟨ht, (Array.getElem?_eq_some_iff.mp g1).1, cell, g1, g2, g3, g4, g5, g6⟩⟩
    · exact ⟨0, fun h => absurd h hk⟩
  obtain ⟨aB, hB⟩ := Classical.axiomOfChoice hB0
  -- ALL
  obtain ⟨tA, htA, cellA, u1, u2, u3, u4, u5, u6, -⟩ := va_Tof (tm := nSa) (ty := .object "MixMachine$Operation") (N := 50) (f := fun j => .ref (aO j)) (A := mNew s.heap.size) (by decide) (nPr hgv nPa.1) (va_eqt (nPr hgv nPa.2)) (fun j hj => va_eqv (nPr hgv (nPo (a := 10) (by simp) hj)) (hO j hj).1) hA
  have lA : tA < s.heap.size := (Array.getElem?_eq_some_iff.mp u1).1
  -- the statics that nobody looks into
  have hvr : ∀ {C n d : String}, (Cond.isRef (.static C n d)).before args s = true → ∃ v, (Term.static C n d).eval args s none [] s = some v ∧ (v = .null ∨ ∃ t, v = .ref t) := fun h => (mRefV h).elim (fun h => ⟨_, h, Or.inl rfl⟩) (fun ⟨t, h⟩ => ⟨_, h, Or.inr ⟨t, rfl⟩⟩)
  obtain ⟨v3, h3, h3r⟩ := hvr (gv (w := mUnas) (by simp))
  obtain ⟨v4, h4, h4r⟩ := hvr (gv (w := mSent) (by simp))
  obtain ⟨v5, h5, h5r⟩ := hvr (gv (w := nFm) (by simp))
  generalize hA3 : (nRv s.heap.size 155 b v3).1 = a3
  generalize hA4 : (nRv s.heap.size 156 b v4).1 = a4
  generalize hA5 : (nRv s.heap.size 157 b v5).1 = a5
  have q3 : a3 < s.heap.size := by rw [← hA3]; exact nRv_lt hb
  have q4 : a4 < s.heap.size := by rw [← hA4]; exact nRv_lt hb
  have q5 : a5 < s.heap.size := by rw [← hA5]; exact nRv_lt hb
  generalize hadd : nAd s.heap.size b t1 aO aS aB tA a3 a4 a5 = ad
  have adS : ∀ k, k < 51 → ad (nSix k) = aS k ∧ ad (nSix k + 1) = aB k := fun k hk => by rw [← hadd]; exact nAd_S hk
  have adO : ∀ k, k < 50 → ad (k + 2) = aO k := fun k hk => by rw [← hadd]; exact nAd_O hk
  have adN : ∀ i, ad (158 + i) = s.heap.size + i := fun i => by
    rw [← hadd]
    unfold nAd
    rw [if_neg (by omega), if_neg (by omega), if_neg (by omega), if_neg (by omega), if_neg (by omega), if_neg (by omega), if_neg (by omega), if_neg (by omega), if_neg (by omega), if_neg (by omega), Nat.add_sub_cancel_left]
  have ad0 : ad 0 = b := by rw [← hadd]; rfl
  have ad1 : ad 1 = t1 := by rw [← hadd]; rfl
  have ad52 : ad 52 = tA := by rw [← hadd]; rfl
  have ad155 : ad 155 = a3 := by rw [← hadd]; rfl
  have ad156 : ad 156 = a4 := by rw [← hadd]; rfl
  have ad157 : ad 157 = a5 := by rw [← hadd]; rfl
  -- where a cell of the third part lies
  have cut : ∀ i, i < 158 → i = 0 ∨ i = 1 ∨ (∃ k, k < 50 ∧ i = k + 2) ∨ i = 52 ∨ (∃ k, k < 51 ∧ i = nSix k) ∨ (∃ k, k < 51 ∧ i = nSix k + 1) ∨ i = 155 ∨ i = 156 ∨ i = 157 := fun i hi => by
    by_cases c1 : i < 52
    · by_cases c0 : i < 2
      · omega
      · exact Or.inr (Or.inr (Or.inl ⟨i - 2, by omega, by omega⟩))
    · by_cases c2 : i = 53
      · exact Or.inr (Or.inr (Or.inr (Or.inr (Or.inl ⟨50, by omega, c2⟩))))
      · by_cases c3 : i = 54
        · exact Or.inr (Or.inr (Or.inr (Or.inr (Or.inr (Or.inl ⟨50, by omega, c3⟩)))))
        · by_cases c4 : 55 ≤ i ∧ i < 155
          · by_cases c5 : (i - 55) % 2 = 0
            · refine Or.inr (Or.inr (Or.inr (Or.inr (Or.inl ⟨(i - 55) / 2, by omega, ?_⟩))))
              unfold nSix
              rw [if_neg (by omega)]
              omega
            · refine Or.inr (Or.inr (Or.inr (Or.inr (Or.inr (Or.inl ⟨(i - 55) / 2, by omega, ?_⟩)))))
              unfold nSix
              rw [if_neg (by omega)]
              omega
          · omega
  have cO : ∀ k, k < 50 → nCell L xs (k + 2) = some (.inr (13, [.ref (nSix k), .int (nOp k).2.2.1, .int (nOp k).2.2.2])) := fun k hk => by
    unfold nCell
    rw [if_neg (by omega), if_neg (by omega), if_pos (by omega), Nat.add_sub_cancel]
  have cS : ∀ k, k < 51 → nCell L xs (nSix k) = nStr k ∧ nCell L xs (nSix k + 1) = nBa k := fun k hk => by
    unfold nSix
    by_cases h : k = 50
    · subst h
      exact ⟨rfl, rfl⟩
    · rw [if_neg h]
      unfold nCell
      refine ⟨?_, ?_⟩
      · rw [if_neg (by omega), if_neg (by omega), if_neg (by omega), if_neg (by omega), if_neg (by omega), if_neg (by omega), if_pos (by omega), if_pos (by omega)]
        congr 1
        omega
      · rw [if_neg (by omega), if_neg (by omega), if_neg (by omega), if_neg (by omega), if_neg (by omega), if_neg (by omega), if_pos (by omega), if_neg (by omega)]
        congr 1
        omega
  have ordE : ∀ k, k < 50 → s.fieldOf? (aO k) "java/lang/Enum" "ordinal" "I" = some (.int (Int32.ofNat k)) := fun k hk => by
    have o := va_eqt (nPr hgv (nPo (a := 1) (by simp) hk))
    rw [va_fe (hO k hk).1] at o
    exact o
  have len0 : (nOld L xs).length = 158 := by unfold nOld; rw [List.length_map, List.length_range]
  refine ⟨(fun c => (f c).1, fun c => (f c).2), fun t => match t with
    | 0 => ci
    | 1 => cj
    | 2 => cc
    | _ => cz, ad, (nRv s.heap.size 155 b v3).2, (nRv s.heap.size 156 b v4).2, (nRv s.heap.size 157 b v5).2, ⟨fun i hi => ?_, fun i hi => ?_, fun i j hi hj he => ?_⟩, ad0, nRv_ref h3r, nRv_ref h4r, nRv_ref h5r, ⟨⟨fun c q hq => hf c q hq, fun k q hk => ?_⟩, ⟨by rw [len0]; exact Nat.le_refl _, fun i h1 h2 => ?_⟩, by rw [len0]; rfl, fun i c hc => ?_, fun z hz => ?_⟩, fun q hq => ?_, fun q hq => ?_, ?_⟩
  · rcases cut i hi with rfl | rfl | ⟨k, hk, rfl⟩ | rfl | ⟨k, hk, rfl⟩ | ⟨k, hk, rfl⟩ | rfl | rfl | rfl
    · rw [ad0]; exact hb
    · rw [ad1]; exact l1
    · rw [adO k hk]; exact (hO k hk).2.1
    · rw [ad52]; exact lA
    · rw [(adS k hk).1]; exact (hS k hk).2.1
    · rw [(adS k hk).2]; exact (hB k hk).2.1
    · rw [ad155]; exact q3
    · rw [ad156]; exact q4
    · rw [ad157]; exact q5
  · have := adN (i - 158)
    rw [Nat.add_sub_of_le hi] at this
    exact this
  · obtain ⟨i1, i2⟩ := hi
    obtain ⟨j1, j2⟩ := hj
    have hi' : ad (i - 2 + 2) = ad (j - 2 + 2) := by rw [Nat.sub_add_cancel i1, Nat.sub_add_cancel j1]; exact he
    rw [adO _ (by omega), adO _ (by omega)] at hi'
    have o1 := ordE (i - 2) (by omega)
    have o2 := ordE (j - 2) (by omega)
    rw [← hi', o1] at o2
    have o3 := nOrd ⟨i - 2, by omega⟩ ⟨j - 2, by omega⟩ (Value.int.inj (Option.some.inj o2))
    have o4 : i - 2 = j - 2 := congrArg Fin.val o3
    omega
  · match k, hk with
    | 0, hk => cases hk; exact ⟨ci1, ci2⟩
    | 1, hk => cases hk; exact ⟨cj1, cj2⟩
    | 2, hk => cases hk; exact ⟨cc1, cc2⟩
    | 3, hk => cases hk; exact ⟨cz1, cz2⟩
    | k + 4, hk => cases hk
  · rw [len0] at h2
    exact absurd h2 (Nat.not_lt.mpr h1)
  · have hi : i < 158 := by
      have := (List.getElem?_eq_some_iff.mp hc).1
      rw [len0] at this
      exact this
    have hc' : nCell L xs i = some c := by
      unfold nOld at hc
      rw [List.getElem?_map, List.getElem?_range hi] at hc
      exact Option.some.inj hc
    rcases cut i hi with rfl | rfl | ⟨k, hk, rfl⟩ | rfl | ⟨k, hk, rfl⟩ | ⟨k, hk, rfl⟩ | rfl | rfl | rfl
    · cases hc'
      obtain ⟨scr, x1, x2, x3, x4, x5⟩ := hX
      exact ⟨scr, by rw [ad0]; exact x1, x2, x3, by omega, by rw [x4], x5⟩
    · cases hc'
      exact ⟨cell1, by rw [ad1]; exact e1, e2, e3, e4, e5, e6⟩
    · rw [cO k hk] at hc'
      cases hc'
      refine Or.inr ⟨rfl, ?_⟩
      rw [adO k hk]
      obtain ⟨o1, -, o2⟩ := hO k hk
      refine ⟨o2, fun j q hj => ?_⟩
      match j, hj with
      | 0, hj =>
        cases hj
        refine ⟨_, rfl, ?_⟩
        show mOF _ _ _ (.ref (ad (nSix k))) _ _ _
        rw [(adS k (by omega)).1]
        exact mOF.of o1 (va_eqv (nPr hgv (nPo (a := 2) (by simp) hk)) (hS k (by omega)).1)
      | 1, hj => cases hj; exact ⟨_, rfl, mOF.of o1 (va_eqt (nPr hgv (nPo (a := 3) (by simp) hk)))⟩
      | 2, hj => cases hj; exact ⟨_, rfl, mOF.of o1 (va_eqt (nPr hgv (nPo (a := 4) (by simp) hk)))⟩
      | j + 3, hj => cases hj
    · cases hc'
      refine (show mOld mOp (ad 52) 50 _ s s.heap from ⟨cellA, by rw [ad52]; exact u1, u2, u3, u4, u5, fun j hj => ?_⟩)
      rw [u6 j hj]
      show some (Value.ref (aO j)) = some (.ref (ad (j + 2)))
      rw [adO j hj]
    · rw [(cS k hk).1] at hc'
      cases hc'
      refine Or.inr ⟨rfl, ?_⟩
      rw [(adS k hk).1]
      obtain ⟨o1, -, o2⟩ := hS k hk
      refine ⟨o2, fun j q hj => ?_⟩
      match j, hj with
      | 0, hj =>
        cases hj
        refine ⟨_, rfl, ?_⟩
        show mOF _ _ _ (.ref (ad (nSix k + 1))) _ _ _
        rw [(adS k hk).2]
        exact mOF.of o1 (hB k hk).1
      | 1, hj => cases hj; exact ⟨_, rfl, mOF.of o1 (va_eqt (nPr hgv (nPs (a := 6) (by simp) hk)))⟩
      | j + 2, hj => cases hj
    · rw [(cS k hk).2] at hc'
      cases hc'
      refine (show mOld .byte (ad (nSix k + 1)) _ _ s s.heap from ?_)
      rw [(adS k hk).2]
      exact (hB k hk).2.2
    · cases hc'
    · cases hc'
    · cases hc'
  · have evO : ∀ k, k < 50 → (nSo k).eval args s none [] s = some (.ref (ad (k + 2))) := fun k hk => by rw [adO k hk]; exact (hO k hk).1
    have z1 := tb (w := .initialized "MixMachine$Operation") (by simp)
    simp only [nZ0, nZv, List.cons_append, List.nil_append, List.mem_cons, List.not_mem_nil, or_false] at hz
    rcases hz with rfl | rfl | rfl | rfl | rfl | rfl | rfl | rfl | rfl | rfl | rfl
    · exact mZ.of (tb (by simp)) (tb (by simp)) (by show _ = some (Value.ref (ad 1)); rw [ad1]; exact ht1) hA
    · exact mZ.of (tb (by simp)) z1 (by show _ = some (Value.ref (ad 52)); rw [ad52]; exact htA) hA
    · exact mZ.of (tb (by simp)) (tb (by simp)) (va_eqi (gv (by simp))) hA
    · exact mZ.of (tb (by simp)) z1 (evO 0 (by decide)) hA
    · exact mZ.of (tb (by simp)) z1 (evO 46 (by decide)) hA
    · exact mZ.of (tb (by simp)) z1 (evO 47 (by decide)) hA
    · exact mZ.of (tb (by simp)) z1 (evO 48 (by decide)) hA
    · exact mZ.of (tb (by simp)) z1 (evO 49 (by decide)) hA
    · dsimp only
      rw [nRv_ad h3r (by rw [ad155]; exact hA3.symm) adN]
      exact mZ.of (tb (w := mUnasL) (by simp)) (tb (by simp)) h3 hA
    · dsimp only
      rw [nRv_ad h4r (by rw [ad156]; exact hA4.symm) adN]
      exact mZ.of (tb (w := mSentL) (by simp)) (tb (by simp)) h4 hA
    · dsimp only
      rw [nRv_ad h5r (by rw [ad157]; exact hA5.symm) adN]
      exact mZ.of (tb (w := nFmL) (by simp)) (tb (by simp)) h5 hA
  · obtain ⟨a, -, -, -, ha, -⟩ := Cond.exactly_spec (hgv _ (of_decide_eq_true (List.all_eq_true.mp nStrs_gv q hq)))
    obtain ⟨v, hv, hv1⟩ := List.any_eq_true.mp (List.all_eq_true.mp nStrs_tb q hq)
    rw [Bool.and_eq_true, decide_eq_true_eq] at hv1
    exact ⟨a, vk_R.of (hts _ (by rw [← hv1.2]; exact hv)) ha⟩
  · exact va_Nc.of (hgv _ (of_decide_eq_true (List.all_eq_true.mp nNcs_gv q hq)))
  · refine vk_R.of (tb (w := .stringRef "MixMachine$Operation" 198 "A123456X") (by simp)) ?_
    show (nSg 50).eval args s none [] s = some (.ref (ad 53))
    have := (adS 50 (by decide)).1
    rw [show nSix 50 = 53 from rfl] at this
    rw [this]
    exact (hS 50 (by decide)).1
