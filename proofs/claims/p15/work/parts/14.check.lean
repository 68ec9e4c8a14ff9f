/-! THE TABLES CHECKED BY PROGRAM -/
/-- words that stay true as the tables warm -/
def mGw (w : Cond) : Bool := goodWord w || match w with
  | .fieldLinkNest .. => true
  | .methodLinkNest .. => true
  | .castable .. => true
  | .declares _ => true
  | _ => false
theorem mGw_ok {w : Cond} (h : mGw w = true) : mWarm w := by
  intro args a' s U hW hb
  cases hg : goodWord w with
  | true => exact word_at hW (good_of_word hg) hb
  | false =>
    unfold mGw at h
    rw [hg, Bool.false_or] at h
    split at h
    · exact va_Nw.use rfl (va_Nw.warmF hW (va_Nw.of rfl hb))
    · exact va_Nw.use rfl (va_Nw.warmM hW (va_Nw.of rfl hb))
    · exact va_Nw.use rfl (va_Nw.warmC hW (va_Nw.of rfl hb))
    · exact va_Nw.use rfl (va_Nw.warmD hW (va_Nw.of rfl hb))
    · cases h
abbrev mTs' (tb : List Cond) : List Cond := tb.filter mGw
/-- a quick look before two words are compared -/
def kPre (v w : Cond) : Bool := match v with
  | .methodLink _ i _ => (match w with
    | .methodLink _ j _ => Nat.beq i j
    | _ => false)
  | .fieldLink _ i _ _ _ => (match w with
    | .fieldLink _ j _ _ _ => Nat.beq i j
    | _ => false)
  | .fieldLinkNest _ i _ _ _ _ => (match w with
    | .fieldLinkNest _ j _ _ _ _ => Nat.beq i j
    | _ => false)
  | .methodLinkNest _ i _ _ => (match w with
    | .methodLinkNest _ j _ _ => Nat.beq i j
    | _ => false)
  | .constantLong _ i _ => (match w with
    | .constantLong _ j _ => Nat.beq i j
    | _ => false)
  | .constant _ i _ => (match w with
    | .constant _ j _ => Nat.beq i j
    | _ => false)
  | .classLink _ i _ => (match w with
    | .classLink _ j _ => Nat.beq i j
    | _ => false)
  | .stringRef _ i _ => (match w with
    | .stringRef _ j _ => Nat.beq i j
    | _ => false)
  | .code x _ i _ => (match w with
    | .code y _ j _ => Nat.beq i j && (decide (x.name = y.name) && decide (x.desc = y.desc))
    | _ => false)
  | .instanceMethod x => (match w with
    | .instanceMethod y => decide (x.name = y.name)
    | _ => false)
  | .static x => (match w with
    | .static y => decide (x.name = y.name)
    | _ => false)
  | .privateMethod x => (match w with
    | .privateMethod y => decide (x.name = y.name)
    | _ => false)
  | .selects _ x _ => (match w with
    | .selects _ y _ => decide (x.name = y.name)
    | _ => false)
  | .soleField .. => (match w with
    | .soleField .. => true
    | _ => false)
  | .lays _ _ n _ => (match w with
    | .lays _ _ k _ => decide (n = k)
    | _ => false)
  | .laysFinal _ _ n _ => (match w with
    | .laysFinal _ _ k _ => decide (n = k)
    | _ => false)
  | .laysStatic _ n _ => (match w with
    | .laysStatic _ k _ => decide (n = k)
    | _ => false)
  | _ => true
def kM (tb : List Cond) (w : Cond) : Bool := mGw w && tb.any (fun v => kPre v w && decide (v = w))
theorem kM_ok {tb : List Cond} {w : Cond} (h : kM tb w = true) : w ∈ mTs' tb := by
  unfold kM at h
  rw [Bool.and_eq_true] at h
  obtain ⟨v, hv, h1⟩ := List.any_eq_true.mp h.2
  rw [Bool.and_eq_true, decide_eq_true_eq] at h1
  rw [← h1.2]
  exact List.mem_filter.mpr ⟨hv, by rw [h1.2]; exact h.1⟩
def kTy (T : u_T) (k : Nat) : FieldType := (parseFieldDescriptor (T k).2.2.1).getD .int
/-- a class's table -/
def kCl (S : Cond → Bool) (q : vw_C) : Bool := (u_ws q.1 q.2.1 q.2.2).all (S) && (List.range q.2.2).all (fun k => (parseFieldDescriptor (q.2.1 k).2.2.1).isSome) && (List.range q.2.2).all (fun a => (List.range q.2.2).all (fun b => a == b || (q.2.1 a).2.1 != (q.2.1 b).2.1))
theorem kCl_ok {S : Cond → Bool} {Ts : List Cond} (hS : ∀ w, S w = true → w ∈ Ts) {C : String} {T : u_T} {N : Nat} (h : kCl S (C, T, N) = true) : (∀ w ∈ u_ws C T N, w ∈ Ts) ∧ (∀ k, k < N → parseFieldDescriptor (T k).2.2.1 = some (kTy T k)) ∧ ∀ a, a < N → ∀ b, b < N → a ≠ b → (T a).2.1 ≠ (T b).2.1 := by
  unfold kCl at h
  rw [Bool.and_eq_true, Bool.and_eq_true] at h
  obtain ⟨⟨h1, h2⟩, h3⟩ := h
  refine ⟨fun w hw => (hS _) (List.all_eq_true.mp h1 w hw), fun k hk => ?_, fun a ha b hb hab => ?_⟩
  · have := List.all_eq_true.mp h2 k (List.mem_range.mpr hk)
    dsimp only at this
    unfold kTy
    cases hp : parseFieldDescriptor (T k).2.2.1 with
    | none => rw [hp] at this; cases this
    | some t => rfl
  · have := List.all_eq_true.mp (List.all_eq_true.mp h3 a (List.mem_range.mpr ha)) b (List.mem_range.mpr hb)
    dsimp only at this
    rw [Bool.or_eq_true] at this
    rcases this with h4 | h4
    · exact absurd (by simpa using h4) hab
    · simpa using h4
def kLk (S : Cond → Bool) (own : String) (ix : Nat) (f : String × String × String × Bool) : Bool := S (.fieldLink own ix f.1 f.2.1 f.2.2.1) || S (.fieldLinkNest own ix f.1 f.2.1 f.2.2.1 "MixMachine")
theorem kLk_ok {S : Cond → Bool} {Ts : List Cond} (hS : ∀ w, S w = true → w ∈ Ts) {own : String} {ix : Nat} {f : String × String × String × Bool} (h : kLk S own ix f = true) : Cond.fieldLink own ix f.1 f.2.1 f.2.2.1 ∈ Ts ∨ ∃ host, Cond.fieldLinkNest own ix f.1 f.2.1 f.2.2.1 host ∈ Ts := by
  unfold kLk at h
  rw [Bool.or_eq_true] at h
  exact h.imp (hS _) (fun h => ⟨_, (hS _) h⟩)
def kG (S : Cond → Bool) (own : String) (cl : List vw_C) (zs : List (String × String × String × Value)) (i : Instr) (o1 o2 : Nat) (v : Value) : Bool := match i with
  | .getfield ix => match cl[o1]? with
    | some q => decide (o2 < q.2.2) && kLk S own ix (q.2.1 o2)
    | none => match (mKc o1).2[o2]? with
      | some q => S (.fieldLink own ix q.1 q.2.1 q.2.2) || S (.fieldLinkNest own ix q.1 q.2.1 q.2.2 "MixMachine")
      | none => false
  | .getstatic ix => zs.any (fun z => decide (z.2.2.2 = v) && (S (.fieldLink own ix z.1 z.2.1 z.2.2.1) || S (.fieldLinkNest own ix z.1 z.2.1 z.2.2.1 "MixMachine")))
  | .ldc ix => match v with
    | .int x => S (.constant own ix x)
    | .ref q => decide (own = mRN.1) && (decide (ix = mRN.2.1) && decide (q = mRN.2.2.2))
    | _ => false
  | .ldc_w ix => match v with
    | .int x => S (.constant own ix x)
    | _ => false
  | .ldc2_w ix => match v with
    | .long x => S (.constantLong own ix x)
    | _ => false
  | _ => true
theorem kG_ok {S : Cond → Bool} {Ts : List Cond} (hS : ∀ w, S w = true → w ∈ Ts) {own : String} {cl : List vw_C} {zs zv : List (String × String × String × Value)} {i : Instr} {o1 o2 : Nat} {v : Value} {S0 : Cond → Bool} (hS0 : ∀ w, S0 w = true → w ∈ Ts) (hcl : ∀ q ∈ cl, kCl S0 q = true) (h : kG S own cl zs i o1 o2 v = true) : mVg own cl (zs ++ zv) Ts i o1 o2 v := by
  cases i <;> simp only [kG, mVg] at h ⊢
  case getfield ix =>
    split at h
    · rename_i q hq
      obtain ⟨C, T, N⟩ := q
      rw [Bool.and_eq_true, decide_eq_true_eq] at h
      exact Or.inl ⟨C, T, N, hq, h.1, (kCl_ok hS0 (hcl _ (List.mem_of_getElem? hq))).1, kLk_ok hS h.2⟩
    · rename_i hq
      split at h
      · rename_i q hq2
        rw [Bool.or_eq_true] at h
        exact Or.inr ⟨hq, q, hq2, h.imp (hS _) (fun h => ⟨_, (hS _) h⟩)⟩
      · cases h
  case getstatic ix =>
    obtain ⟨z, hz, h1⟩ := List.any_eq_true.mp h
    rw [Bool.and_eq_true, decide_eq_true_eq] at h1
    obtain ⟨C, n, d, w⟩ := z
    obtain ⟨rfl, h2⟩ := h1
    rw [Bool.or_eq_true] at h2
    exact ⟨C, n, d, List.mem_append_left _ hz, h2.imp (hS _) (fun h => ⟨_, (hS _) h⟩)⟩
  case ldc ix =>
    split at h
    · exact Or.inl ⟨_, rfl, (hS _) h⟩
    · rw [Bool.and_eq_true, Bool.and_eq_true, decide_eq_true_eq, decide_eq_true_eq, decide_eq_true_eq] at h
      exact Or.inr ⟨h.1, h.2.1, by rw [h.2.2]⟩
    · cases h
  case ldc_w ix =>
    split at h
    · exact ⟨_, rfl, (hS _) h⟩
    · cases h
  case ldc2_w ix =>
    split at h
    · exact ⟨_, rfl, (hS _) h⟩
    · cases h
def kP (S : Cond → Bool) (own : String) (cl : List vw_C) (isI : Bool) (i : Instr) (o1 o2 o3 : Nat) : Bool := match i with
  | .putfield ix => match cl[o1]? with
    | some q => decide (o2 < q.2.2) && (mFk o3 (kTy q.2.1 o2) && (match (q.2.1 o2).2.2.2 with
      | false => kLk S own ix (q.2.1 o2)
      | true => isI && (decide ((q.2.1 o2).1 = own) && S (.fieldLink own ix (q.2.1 o2).1 (q.2.1 o2).2.1 (q.2.1 o2).2.2.1))))
    | none => false
  | _ => true
theorem kP_ok {S : Cond → Bool} {Ts : List Cond} (hS : ∀ w, S w = true → w ∈ Ts) {own : String} {cl : List vw_C} {isI : Bool} {i : Instr} {o1 o2 o3 : Nat} {S0 : Cond → Bool} (hS0 : ∀ w, S0 w = true → w ∈ Ts) (hcl : ∀ q ∈ cl, kCl S0 q = true) (h : kP S own cl isI i o1 o2 o3 = true) : mVp own cl Ts isI i o1 o2 o3 := by
  cases i <;> simp only [kP, mVp] at h ⊢
  case putfield ix =>
    split at h
    · rename_i q hq
      obtain ⟨C, T, N⟩ := q
      rw [Bool.and_eq_true, Bool.and_eq_true, decide_eq_true_eq] at h
      obtain ⟨h1, h2, h3⟩ := h
      obtain ⟨k1, k2, k3⟩ := kCl_ok hS0 (hcl _ (List.mem_of_getElem? hq))
      refine ⟨C, T, N, kTy T, hq, h1, k1, k2, k3, h2, ?_⟩
      dsimp only at h3
      split at h3
      · rename_i hf
        exact Or.inl ⟨hf, kLk_ok hS h3⟩
      · rename_i hf
        rw [Bool.and_eq_true, Bool.and_eq_true, decide_eq_true_eq] at h3
        exact Or.inr ⟨hf, h3.1, h3.2.1, (hS _) h3.2.2⟩
    · cases h
def kN (S : Cond → Bool) (own : String) (cl : List vw_C) (dflt : Nat → List Value) (i : Instr) (o1 o3 : Nat) : Bool := match i with
  | .newarray t => S (.arrayClass (newarray.typeOf t))
  | .new ix => o3 != 0 || match cl[o1]? with
    | some q => S (.classLink own ix q.1) && (S (.instantiable q.1 q.2.2) && (S (.initialized q.1) && decide (dflt o1 = (List.range q.2.2).map (fun k => defaultValue (kTy q.2.1 k)))))
    | none => false
  | _ => true
theorem kN_ok {S : Cond → Bool} {Ts : List Cond} (hS : ∀ w, S w = true → w ∈ Ts) {own : String} {cl : List vw_C} {dflt : Nat → List Value} {i : Instr} {o1 o3 : Nat} {S0 : Cond → Bool} (hS0 : ∀ w, S0 w = true → w ∈ Ts) (hcl : ∀ q ∈ cl, kCl S0 q = true) (h : kN S own cl dflt i o1 o3 = true) : (o3 = 0 ∨ mNw i = false) → mVn own cl Ts dflt i o1 := by
  intro h0
  cases i <;> simp only [kN, mVn] at h ⊢
  case newarray t => exact (hS _) h
  case new ix =>
    have h0 : o3 = 0 := h0.elim id (fun q => by cases q)
    subst h0
    have h : (match cl[o1]? with
      | some q => S (.classLink own ix q.1) && (S (.instantiable q.1 q.2.2) && (S (.initialized q.1) && decide (dflt o1 = (List.range q.2.2).map (fun k => defaultValue (kTy q.2.1 k)))))
      | none => false) = true := by simpa using h
    split at h
    · rename_i q hq
      obtain ⟨C, T, N⟩ := q
      rw [Bool.and_eq_true, Bool.and_eq_true, Bool.and_eq_true, decide_eq_true_eq] at h
      obtain ⟨h1, h2, h3, h4⟩ := h
      obtain ⟨k1, k2, k3⟩ := kCl_ok hS0 (hcl _ (List.mem_of_getElem? hq))
      refine ⟨C, T, N, kTy T, hq, k1, k2, (hS _) h1, (hS _) h2, (hS _) h3, by rw [h4]; simp, fun j hj => ?_⟩
      rw [h4, List.getElem?_map, List.getElem?_range hj]
      rfl
    · cases h
def kX1 (S : Cond → Bool) (own : String) (i : Instr) : Bool := match i with
  | .invokespecial ix => S (.methodLink own ix Lib.objectInit) && (S (.instanceMethod Lib.objectInit) && S (.code Lib.objectInit ⟨#[0xb1]⟩ 1 none))
  | .new _ => true
  | _ => false
def kX2 (S : Cond → Bool) (own : String) (y : MethodName) (cd : ByteArray) (i : Instr) : Bool := match i with
  | .invokestatic ix => S (.methodLink own ix y) && (S (.static y) && (S (.initialized "java/lang/Math") && S (.code y cd 2 (some .int))))
  | _ => false
def kX4 (S : Cond → Bool) (own : String) (i : Instr) : Bool := match i with
  | .invokestatic ix => S (.methodLink own ix arraycopyName) && (S (.native arraycopyName) && (S (.static arraycopyName) && S (.initialized "java/lang/System")))
  | .new _ => true
  | _ => false
theorem kX4_ok {S : Cond → Bool} {Ts : List Cond} (hS : ∀ w, S w = true → w ∈ Ts) {own : String} {i : Instr} (h : kX4 S own i = true) (hn : mNw i = false) : mVy own Ts i := by
  cases i <;> simp only [kX4, reduceCtorEq] at h
  case invokestatic ix =>
    simp only [Bool.and_eq_true] at h
    exact ⟨_, rfl, (hS _) h.1, (hS _) h.2.1, (hS _) h.2.2.1, (hS _) h.2.2.2⟩
  case new ix => cases hn
def kX (S : Cond → Bool) (own : String) (i : Instr) (o3 : Nat) : Bool := match o3 with
  | 1 => kX1 S own i
  | 2 => kX2 S own Lib.Math.min.name Lib.Math.min.code i
  | 3 => kX2 S own Lib.Math.max.name Lib.Math.max.code i
  | 4 => kX4 S own i
  | 5 => kX4 S own i
  | _ => true
theorem kX2_ok {S : Cond → Bool} {Ts : List Cond} (hS : ∀ w, S w = true → w ∈ Ts) {own : String} {y : MethodName} {cd : ByteArray} {i : Instr} (h : kX2 S own y cd i = true) : ∃ ix, i = .invokestatic ix ∧ Cond.methodLink own ix y ∈ Ts ∧ Cond.static y ∈ Ts ∧ Cond.initialized "java/lang/Math" ∈ Ts ∧ Cond.code y cd 2 (some .int) ∈ Ts := by
  cases i <;> simp only [kX2, reduceCtorEq] at h
  case invokestatic ix =>
    simp only [Bool.and_eq_true] at h
    exact ⟨_, rfl, (hS _) h.1, (hS _) h.2.1, (hS _) h.2.2.1, (hS _) h.2.2.2⟩
theorem kX_ok {S : Cond → Bool} {Ts : List Cond} (hS : ∀ w, S w = true → w ∈ Ts) {own : String} {i : Instr} {o3 : Nat} (h : kX S own i o3 = true) (hn : mNw i = false) : mVx own Ts i o3 := by
  by_cases h1 : o3 = 1
  · subst h1
    have h2 : kX1 S own i = true := h
    cases i <;> simp only [kX1, reduceCtorEq] at h2
    case invokespecial ix =>
      rw [Bool.and_eq_true, Bool.and_eq_true] at h2
      exact ⟨_, rfl, (hS _) h2.1, (hS _) h2.2.1, (hS _) h2.2.2⟩
    case new ix => cases hn
  · by_cases h2 : o3 = 2
    · subst h2
      exact kX2_ok hS h
    · by_cases h3 : o3 = 3
      · subst h3
        exact kX2_ok hS h
      · by_cases h4 : o3 = 4
        · subst h4
          exact kX4_ok hS h hn
        · by_cases h5 : o3 = 5
          · subst h5
            exact kX4_ok hS h hn
          · unfold mVx
            split
            · exact absurd rfl h1
            · exact absurd rfl h2
            · exact absurd rfl h3
            · exact absurd rfl h4
            · exact absurd rfl h5
            · trivial
def kD (nL : Nat) (i : Instr) (o1 : Nat) : Bool := match i with
  | .istore _ => o1 == nL
  | .istore_n _ => o1 == nL
  | .lstore _ => o1 == nL
  | .lstore_n _ => o1 == nL
  | .astore _ => o1 == nL
  | .astore_n _ => o1 == nL
  | .iinc _ _ => o1 == nL
  | _ => true
theorem kD_ok {nL : Nat} {i : Instr} {o1 : Nat} (h : kD nL i o1 = true) : mVd nL i o1 := by
  cases i <;> simp only [kD, mVd] at h ⊢ <;> simpa using h
def kR (rt : Option FieldType) (i : Instr) (o1 : Nat) : Bool := match i with
  | .ireturn => match o1 with
    | 0 => decide (rt = some .int)
    | 1 => decide (rt = some .boolean)
    | 2 => decide (rt = some .char)
    | 3 => decide (rt = some .byte)
    | _ => true
  | .lreturn => decide (rt = some .long)
  | .areturn => match rt with
    | some (.object _) => true
    | some (.array _) => true
    | _ => false
  | .return_ => decide (rt = none)
  | _ => true
theorem kR_ok {rt : Option FieldType} {i : Instr} {o1 : Nat} (h : kR rt i o1 = true) : mVr rt i o1 := by
  cases i <;> simp only [kR, mVr] at h ⊢
  case ireturn =>
    split at h
    · exact ⟨fun _ => of_decide_eq_true h, fun q => (by cases q), fun q => (by cases q), fun q => (by cases q)⟩
    · exact ⟨fun q => (by cases q), fun _ => of_decide_eq_true h, fun q => (by cases q), fun q => (by cases q)⟩
    · exact ⟨fun q => (by cases q), fun q => (by cases q), fun _ => of_decide_eq_true h, fun q => (by cases q)⟩
    · exact ⟨fun q => (by cases q), fun q => (by cases q), fun q => (by cases q), fun _ => of_decide_eq_true h⟩
    · rename_i h0 h1 h2 h3
      exact ⟨fun q => absurd q h0, fun q => absurd q h1, fun q => absurd q h2, fun q => absurd q h3⟩
  case lreturn => exact of_decide_eq_true h
  case areturn =>
    split at h
    · exact Or.inl ⟨_, rfl⟩
    · exact Or.inr ⟨_, rfl⟩
    · cases h
  case return_ => exact of_decide_eq_true h
def kLm (S : Cond → Bool) (own : String) (ix : Nat) (y : MethodName) : Bool := S (.methodLink own ix y) || S (.methodLinkNest own ix y "MixMachine")
theorem kLm_ok {S : Cond → Bool} {Ts : List Cond} (hS : ∀ w, S w = true → w ∈ Ts) {own : String} {ix : Nat} {y : MethodName} (h : kLm S own ix y = true) : Cond.methodLink own ix y ∈ Ts ∨ ∃ host, Cond.methodLinkNest own ix y host ∈ Ts := by
  unfold kLm at h
  rw [Bool.or_eq_true] at h
  exact h.imp (hS _) (fun h => ⟨_, (hS _) h⟩)
def kPn (y : MethodName) : Option Nat := (parseMethodDescriptor y.desc).map (fun d => d.parameters.length)
def kC (S : Cond → Bool) (own : String) (cl : List vw_C) (mt : Nat → mMt) (Hn : Nat → List (Nat × Nat × Nat × Nat)) (en : mI) : Bool := en.2.2.2.1 != 0 || match en.1 with
  | .invokevirtual ix => kLm S own ix (mt en.2.1).1 && (S (.instanceMethod (mt en.2.1).1) && (S (.selects (mt en.2.1).1.cls (mt en.2.1).1 (mt en.2.1).1) && (decide (kPn (mt en.2.1).1 = some (en.2.2.1 - 1)) && (decide (1 ≤ en.2.2.1) && (match en.2.2.2.2 with
    | .retAddr k => (match cl[k]? with
      | some q => decide (q.1 = (mt en.2.1).1.cls)
      | none => decide ((mKc k).1 = (mt en.2.1).1.cls))
    | _ => true)))))
  | .invokestatic ix => kLm S own ix (mt en.2.1).1 && (S (.static (mt en.2.1).1) && decide (kPn (mt en.2.1).1 = some en.2.2.1))
  | .invokespecial ix => decide ((mt en.2.1).1.name = "<init>") && (S (.methodLink own ix (mt en.2.1).1) && (S (.instanceMethod (mt en.2.1).1) && ((Hn en.2.1).isEmpty && (decide ((mt en.2.1).2.2.2 = none) && (decide (kPn (mt en.2.1).1 = some (en.2.2.1 - 1)) && decide (1 ≤ en.2.2.1))))))
  | _ => true
theorem kC_ok {S : Cond → Bool} {Ts : List Cond} (hS : ∀ w, S w = true → w ∈ Ts) {own : String} {cl : List vw_C} {mt : Nat → mMt} {Hn : Nat → List (Nat × Nat × Nat × Nat)} {en : mI} (h : kC S own cl mt Hn en = true) : mVc own cl Ts mt Hn en := by
  intro h0
  unfold kC at h
  rw [h0] at h
  have h1 : ((0 : Nat) != 0) = false := rfl
  rw [h1, Bool.false_or] at h
  obtain ⟨i, o1, o2, o3, v⟩ := en
  dsimp only at *
  cases i <;> simp only at h ⊢
  case invokevirtual ix =>
    simp only [Bool.and_eq_true, decide_eq_true_eq] at h
    obtain ⟨a1, a2, a3, a4, a5, a6⟩ := h
    refine ⟨kLm_ok hS a1, (hS _) a2, (hS _) a3, a4, a5, fun k hk => ?_⟩
    subst hk
    dsimp only at a6
    split at a6
    · rename_i q hq
      obtain ⟨C, T, N⟩ := q
      have a6 : C = (mt o1).1.cls := of_decide_eq_true a6
      exact Or.inl ⟨T, N, by rw [hq, a6]⟩
    · rename_i hq
      exact Or.inr ⟨hq, of_decide_eq_true a6⟩
  case invokestatic ix =>
    simp only [Bool.and_eq_true, decide_eq_true_eq] at h
    exact ⟨kLm_ok hS h.1, (hS _) h.2.1, h.2.2⟩
  case invokespecial ix =>
    simp only [Bool.and_eq_true, decide_eq_true_eq] at h
    obtain ⟨a1, a2, a3, a4, a5, a6, a7⟩ := h
    exact ⟨a1, (hS _) a2, (hS _) a3, by simpa using a4, a5, a6, a7⟩
/-- the words of a throw, but for its own call; xk: its constructor's link and code -/
def kOwnL (X : String) (xk : Nat × ByteArray) : List Cond := Bundle.throwableAtoms ++ Bundle.throwableSAtoms ++ Bundle.chainSAtomsX X xk.1 xk.2 ["java/lang/RuntimeException", "java/lang/Exception"] ++ (Bundle.ownAtomsX "" 0 X xk.1 xk.2 []).drop (Bundle.throwableAtoms.length + Bundle.throwableSAtoms.length + (Bundle.chainSAtomsX X xk.1 xk.2 []).length + 1)
theorem kOwn_split {own X : String} {xk : Nat × ByteArray} {ic : Nat} {a : Cond} (h : a ∈ Bundle.ownAtomsX own ic X xk.1 xk.2 ["java/lang/RuntimeException", "java/lang/Exception"]) : a = .methodLink own ic (Bundle.initS X) ∨ a ∈ kOwnL X xk := by
  have drp : ∀ (A B : List Cond) (x : Cond), (A ++ x :: B).drop (A.length + 1) = B := fun A B x => by
    rw [List.drop_append, List.drop_eq_nil_of_le (by omega), List.nil_append, show A.length + 1 - A.length = 1 by omega]
    rfl
  have e1 : (Bundle.ownAtomsX "" 0 X xk.1 xk.2 []).drop (Bundle.throwableAtoms.length + Bundle.throwableSAtoms.length + (Bundle.chainSAtomsX X xk.1 xk.2 []).length + 1) = (Bundle.ownAtomsX own ic X xk.1 xk.2 ["java/lang/RuntimeException", "java/lang/Exception"]).drop (Bundle.throwableAtoms.length + Bundle.throwableSAtoms.length + (Bundle.chainSAtomsX X xk.1 xk.2 ["java/lang/RuntimeException", "java/lang/Exception"]).length + 1) := by
    unfold Bundle.ownAtomsX
    rw [← List.length_append, ← List.length_append, ← List.length_append, drp, drp]
  have e2 : Bundle.ownAtomsX own ic X xk.1 xk.2 ["java/lang/RuntimeException", "java/lang/Exception"] = (Bundle.throwableAtoms ++ Bundle.throwableSAtoms ++ Bundle.chainSAtomsX X xk.1 xk.2 ["java/lang/RuntimeException", "java/lang/Exception"]) ++ .methodLink own ic (Bundle.initS X) :: (Bundle.ownAtomsX own ic X xk.1 xk.2 ["java/lang/RuntimeException", "java/lang/Exception"]).drop (Bundle.throwableAtoms.length + Bundle.throwableSAtoms.length + (Bundle.chainSAtomsX X xk.1 xk.2 ["java/lang/RuntimeException", "java/lang/Exception"]).length + 1) := by
    unfold Bundle.ownAtomsX
    rw [← List.length_append, ← List.length_append, drp]
  rw [e2, List.mem_append, List.mem_cons] at h
  unfold kOwnL
  rw [e1]
  rcases h with h | h | h
  · exact Or.inr (List.mem_append_left _ h)
  · exact Or.inl h
  · exact Or.inr (List.mem_append_right _ h)
/-- the text of a throw, by ldc or by ldc_w -/
def kLd (cc : ByteArray) (pc : Nat) (en : mI) : Bool := match en.2.2.2.2 with
  | .retAddr _ => decide (decode cc (pc + 4) = .ok (.ldc_w en.2.1, 3)) && (decide (decode cc (pc + 4 + 3) = .ok (.invokespecial en.2.2.1, 3)) && decide (decode cc (pc + 4 + 3 + 3) = .ok (.athrow, 1)))
  | _ => decide (decode cc (pc + 4) = .ok (.ldc en.2.1, 2)) && (decide (decode cc (pc + 4 + 2) = .ok (.invokespecial en.2.2.1, 3)) && decide (decode cc (pc + 4 + 2 + 3) = .ok (.athrow, 1)))
theorem kLd_ok {cc : ByteArray} {pc : Nat} {en : mI} (h : kLd cc pc en = true) : ∃ kl, (decode cc (pc + 4) = .ok (.ldc en.2.1, 2) ∧ kl = 2 ∨ decode cc (pc + 4) = .ok (.ldc_w en.2.1, 3) ∧ kl = 3) ∧ decode cc (pc + 4 + kl) = .ok (.invokespecial en.2.2.1, 3) ∧ decode cc (pc + 4 + kl + 3) = .ok (.athrow, 1) := by
  unfold kLd at h
  split at h
  · simp only [Bool.and_eq_true, decide_eq_true_eq] at h
    exact ⟨3, Or.inr ⟨h.1, rfl⟩, h.2.1, h.2.2⟩
  · simp only [Bool.and_eq_true, decide_eq_true_eq] at h
    exact ⟨2, Or.inl ⟨h.1, rfl⟩, h.2.1, h.2.2⟩
/-- a throw: o1 its text's place, o2 its constructor's -/
def kT (S : Cond → Bool) (own : String) (cl : List vw_C) (strs : List (String × Nat × String)) (EX : Nat → String) (cc : ByteArray) (pc : Nat) (en : mI) : Bool := match mTh en with
  | none => true
  | some x => match en.1 with
    | .new ix => decide (decode cc (pc + 3) = .ok (.dup, 1)) && (kLd cc pc en && (S (.classLink own ix (EX x)) && (S (.instantiable (EX x) 6) && (S (.initialized (EX x)) && (strs.any (fun q => decide (q.1 = own) && decide (q.2.1 = en.2.1)) && (Bundle.fit (EX x) && (S (.methodLink own en.2.2.1 (Bundle.initS (EX x))) && (match cl[mXc x]? with
      | some q => decide (q.1 = EX x) && decide (q.2.2 = 0)
      | none => false))))))))
    | _ => false
def kOwn (S : Cond → Bool) (X : String) (xk : Nat × ByteArray) : Bool := decide (mFour xk) && (kOwnL X xk).all (fun a => S a || (decide (a = mUnas ∨ a = mUnasL) || decide (a = mSent ∨ a = mSentL)))
theorem kT_ok {S : Cond → Bool} {Ts : List Cond} (hS : ∀ w, S w = true → w ∈ Ts) {own : String} {cl : List vw_C} {strs : List (String × Nat × String)} {EX : Nat → String} {cc : ByteArray} {pc : Nat} {en : mI} {S0 : Cond → Bool} (hS0 : ∀ w, S0 w = true → w ∈ Ts) (hO : ∀ x, ∃ xk, kOwn S0 (EX x) xk = true) (h : kT S own cl strs EX cc pc en = true) : mVt own cl Ts strs EX cc pc en := by
  intro x hx
  unfold kT at h
  rw [hx] at h
  dsimp only at h
  split at h
  · rename_i ix hi
    simp only [Bool.and_eq_true, decide_eq_true_eq] at h
    obtain ⟨a1, a2, a5, a6, a7, a8, a9, a10, a11⟩ := h
    obtain ⟨kl, a2, a3, a4⟩ := kLd_ok a2
    obtain ⟨q, hq, hq1⟩ := List.any_eq_true.mp a8
    rw [Bool.and_eq_true, decide_eq_true_eq, decide_eq_true_eq] at hq1
    obtain ⟨q1, q2, q3⟩ := q
    obtain ⟨rfl, hq2⟩ := hq1
    dsimp only at hq2
    subst hq2
    split at a11
    · rename_i r hr
      obtain ⟨C, T, N⟩ := r
      rw [Bool.and_eq_true, decide_eq_true_eq, decide_eq_true_eq] at a11
      obtain ⟨b1, b2⟩ := a11
      obtain ⟨xk, hxk⟩ := hO x
      unfold kOwn at hxk
      rw [Bool.and_eq_true, decide_eq_true_eq] at hxk
      refine ⟨ix, _, _, q3, T, xk, kl, hi, a1, a2, a3, a4, (hS _) a5, (hS _) a6, (hS _) a7, hq, a9, hxk.1, fun a ha => ?_, by rw [hr, ← b1, ← b2]⟩
      rcases kOwn_split ha with rfl | ha
      · exact Or.inl ((hS _) a10)
      · have := List.all_eq_true.mp hxk.2 a ha
        rw [Bool.or_eq_true, Bool.or_eq_true, decide_eq_true_eq, decide_eq_true_eq] at this
        exact this.imp (hS0 _) id
    · cases a11
  · cases h
/-- an entry -/
def kE (S : Cond → Bool) (cl : List vw_C) (zs : List (String × String × String × Value)) (dflt : Nat → List Value) (strs : List (String × Nat × String)) (EX : Nat → String) (Hn : Nat → List (Nat × Nat × Nat × Nat)) (mt : Nat → mMt) (mi pc : Nat) (en : mI) : Bool :=
  decide (decode (mt mi).2.1 pc = .ok (en.1, mLn en.1 en.2.1)) && (kD (mt mi).2.2.1 en.1 en.2.1 && (kG S (mt mi).1.cls cl zs en.1 en.2.1 en.2.2.1 en.2.2.2.2 && (kP S (mt mi).1.cls cl ((mt mi).1.name == "<init>") en.1 en.2.1 en.2.2.1 en.2.2.2.1 && (kN S (mt mi).1.cls cl dflt en.1 en.2.1 en.2.2.2.1 && ((!(mIv en.1) || kX S (mt mi).1.cls en.1 en.2.2.2.1) && (kR (mt mi).2.2.2 en.1 en.2.1 && (kC S (mt mi).1.cls cl mt Hn en && (kT S (mt mi).1.cls cl strs EX (mt mi).2.1 pc en && ((Hn mi).isEmpty || (mTh en).isNone)))))))))
/-- a method's code: an entry for each place, none between instructions -/
def kL (f : Nat → mI → Bool) : Nat → List (Option mI) → Bool
  | _, [] => true
  | pc, none :: r => kL f (pc + 1) r
  | pc, some e :: r => f pc e && kL f (pc + 1) r
theorem kL_ok {f : Nat → mI → Bool} : ∀ (r : List (Option mI)) (pc : Nat), kL f pc r = true → ∀ (i : Nat) (e : mI), r[i]? = some (some e) → f (pc + i) e = true
  | [], pc, _, i, e, hi => by simp at hi
  | none :: r, pc, h, 0, e, hi => by simp at hi
  | none :: r, pc, h, i + 1, e, hi => by
    have := kL_ok r (pc + 1) h i e (by simpa using hi)
    rwa [show pc + 1 + i = pc + (i + 1) by omega] at this
  | some x :: r, pc, h, 0, e, hi => by
    have hx : x = e := by simpa using hi
    subst hx
    unfold kL at h
    rw [Bool.and_eq_true] at h
    exact h.1
  | some x :: r, pc, h, i + 1, e, hi => by
    unfold kL at h
    rw [Bool.and_eq_true] at h
    have := kL_ok r (pc + 1) h.2 i e (by simpa using hi)
    rwa [show pc + 1 + i = pc + (i + 1) by omega] at this
def mP' (cods : Nat → List (Option mI)) (mi pc : Nat) : Option mI := match (cods mi)[pc]? with
  | some (some e) => some e
  | _ => none
/-- a method -/
def kVM (S : Cond → Bool) (cl : List vw_C) (zs : List (String × String × String × Value)) (dflt : Nat → List Value) (strs : List (String × Nat × String)) (ncs : List (Nat × Nat)) (EX : Nat → String) (ct : Nat → Nat) (cods : Nat → List (Option mI)) (Hn : Nat → List (Nat × Nat × Nat × Nat)) (mt : Nat → mMt) (mi : Nat) : Bool :=
  (plainName (mt mi).1.cls && (decide ((mt mi).1.cls ≠ "java/lang/invoke/MethodHandle") && (decide ((mt mi).1.cls ≠ "java/lang/invoke/VarHandle") && (S (mCW (mt mi).1 (mt mi).2.1 (mt mi).2.2.1 (mt mi).2.2.2 ((Hn mi).map (fun q => (q.1, q.2.1, q.2.2.1, ct q.2.2.2)))) && (S (.initialized (mt mi).1.cls) && decide ((mt mi).2.2.1 ≤ 20)))))) &&
  (kL (kE S cl zs dflt strs EX Hn mt mi) 0 (cods mi) && (Hn mi).all (fun q => S (.classLink (mt mi).1.cls (ct q.2.2.2) (EX q.2.2.2)) && (S (.castable (EX q.2.2.2) (EX q.2.2.2)) && ((match cl[mXc q.2.2.2]? with
    | some r => decide (r.1 = EX q.2.2.2)
    | none => false) && (Hn mi).all (fun r => decide (r.2.2.2 = q.2.2.2) || decide ((q.2.2.2, r.2.2.2) ∈ ncs))))))
set_option maxHeartbeats 2000000 in
theorem kVM_ok {S : Cond → Bool} {Ts : List Cond} (hS : ∀ w, S w = true → w ∈ Ts) {cl : List vw_C} {zs zv : List (String × String × String × Value)} {dflt : Nat → List Value} {strs : List (String × Nat × String)} {ncs : List (Nat × Nat)} {EX : Nat → String} {ct : Nat → Nat} {cods : Nat → List (Option mI)} {Hn : Nat → List (Nat × Nat × Nat × Nat)} {mt : Nat → mMt} {mi : Nat} {S0 : Cond → Bool} (hS0 : ∀ w, S0 w = true → w ∈ Ts) (hcl : ∀ q ∈ cl, kCl S0 q = true) (hO : ∀ x, ∃ xk, kOwn S0 (EX x) xk = true)
    (h : kVM S cl zs dflt strs ncs EX ct cods Hn mt mi = true) : mVM cl (zs ++ zv) Ts dflt strs ncs EX ct (mP' cods) Hn (fun i => (mt i).2.2.1) mt mi := by
  unfold kVM at h
  simp only [Bool.and_eq_true, decide_eq_true_eq] at h
  obtain ⟨⟨a1, a2, a3, a4, a5, a6⟩, b1, b2⟩ := h
  have key : ∀ pc en, mP' cods mi pc = some en → kE S cl zs dflt strs EX Hn mt mi pc en = true := fun pc en hen => by
    unfold mP' at hen
    split at hen
    · rename_i e he
      cases hen
      have := kL_ok _ 0 b1 pc en he
      rwa [Nat.zero_add] at this
    · cases hen
  refine ⟨a1, ⟨a2, a3⟩, (hS _) a4, (hS _) a5, rfl, a6, fun pc en hen => ?_, fun q hq => ?_, fun hne pc en hen => ?_⟩
  · have := key pc en hen
    unfold kE at this
    simp only [Bool.and_eq_true, decide_eq_true_eq] at this
    obtain ⟨c1, c2, c3, c4, c5, c6, c7, c8, c9, c10⟩ := this
    refine ⟨c1, ⟨kD_ok c2, kG_ok hS hS0 hcl c3, kP_ok hS hS0 hcl c4, kN_ok hS hS0 hcl c5, fun hnw => ?_⟩, kR_ok c7, kC_ok hS c8, kT_ok hS hS0 hO c9⟩
    rw [hnw] at c6
    exact kX_ok hS (by simpa using c6) (by cases hz : en.1 <;> rw [hz] at hnw <;> simp only [mIv, reduceCtorEq] at hnw <;> rfl)
  · have := List.all_eq_true.mp b2 q hq
    simp only [Bool.and_eq_true] at this
    obtain ⟨d1, d2, d3, d4⟩ := this
    refine ⟨(hS _) d1, (hS _) d2, ?_, fun r hr hne => ?_⟩
    · split at d3
      · rename_i r hr
        obtain ⟨C, T, N⟩ := r
        have d3 : C = EX q.2.2.2 := of_decide_eq_true d3
        exact ⟨T, N, by rw [hr, d3]⟩
      · cases d3
    · have := List.all_eq_true.mp d4 r hr
      rw [Bool.or_eq_true, decide_eq_true_eq, decide_eq_true_eq] at this
      exact this.elim (fun q => absurd q hne) id
  · have := key pc en hen
    unfold kE at this
    simp only [Bool.and_eq_true, decide_eq_true_eq] at this
    obtain ⟨c1, c2, c3, c4, c5, c6, c7, c8, c9, c10⟩ := this
    rw [Bool.or_eq_true] at c10
    rcases c10 with h1 | h1
    · exact absurd (by simpa using h1) hne
    · simpa using h1
