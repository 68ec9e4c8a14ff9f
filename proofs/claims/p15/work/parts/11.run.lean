/-! WHAT THE SMALL MACHINE ANSWERS, THE MACHINE DOES -/
theorem mNx_mono {k0 : Nat} {dflt : Nat → List Value} {en : mI} {pc pc' : Nat} {lv lv' : mL} {st st' : List Value} {h h' : mH} (hn : mNx k0 dflt en pc lv st h = some (pc', lv', st', h')) : h.length ≤ h'.length ∧ mSls h ≤ mSls h' := by
  unfold mNx at hn
  split at hn
  · cases hn; exact ⟨Nat.le_refl _, Nat.le_refl _⟩
  · split at hn
    · cases hn; exact ⟨Nat.le_refl _, Nat.le_refl _⟩
    · split at hn
      · cases hn; exact ⟨Nat.le_refl _, Nat.le_refl _⟩
      · split at hn
        · cases hn; exact ⟨Nat.le_refl _, Nat.le_refl _⟩
        · split at hn
          · cases hn; exact ⟨Nat.le_refl _, Nat.le_refl _⟩
          · split at hn
            · rename_i hP
              cases hn
              obtain ⟨e1, e2⟩ := mP_keeps hP
              omega
            · split at hn
              · rename_i hN
                cases hn
                obtain ⟨x, rfl⟩ := mN_grows hN
                rw [mSls_app]
                simp
              · split at hn
                · split at hn
                  · rename_i hX
                    cases hn
                    rw [mX_same hX]
                    exact ⟨Nat.le_refl _, Nat.le_refl _⟩
                  · split at hn
                    · rename_i hY
                      cases hn
                      obtain ⟨e1, e2⟩ := mY_keeps hY
                      omega
                    · cases hn
                · cases hn
theorem evF_mono {k0 : Nat} {dflt : Nat → List Value} {P : Nat → Nat → Option mI} {Hn : Nat → List (Nat × Nat × Nat × Nat)} {dp : Nat} {call : Nat → List Value → mH → Option (mO × mH)} (hc : ∀ ce as h o h', call ce as h = some (o, h') → h.length ≤ h'.length ∧ mSls h ≤ mSls h') :
    ∀ (n mi pc : Nat) (lv : mL) (st : List Value) (h : mH) (o : mO) (hF : mH), evF k0 dflt P Hn dp call n mi pc lv st h = some (o, hF) → h.length ≤ hF.length ∧ mSls h ≤ mSls hF
  | 0, _, _, _, _, _, _, _, he => by cases he
  | n + 1, mi, pc, lv, st, h, o, hF, he => by
    unfold evF at he
    split at he
    · cases he
    · split at he
      · cases he; exact ⟨Nat.le_refl _, Nat.le_refl _⟩
      · split at he
        · split at he
          · cases he
            rw [mSls_app]
            simp
          · cases he
        · split at he
          · split at he
            · rename_i hcl
              obtain ⟨a1, a2⟩ := hc _ _ _ _ _ hcl
              obtain ⟨b1, b2⟩ := evF_mono hc n _ _ _ _ _ _ _ he
              omega
            · rename_i hcl
              obtain ⟨a1, a2⟩ := hc _ _ _ _ _ hcl
              split at he
              · obtain ⟨b1, b2⟩ := evF_mono hc n _ _ _ _ _ _ _ he
                omega
              · split at he
                · cases he
                  exact ⟨a1, a2⟩
                · cases he
            · cases he
          · split at he
            · rename_i hnx
              obtain ⟨a1, a2⟩ := mNx_mono hnx
              obtain ⟨b1, b2⟩ := evF_mono hc n _ _ _ _ _ _ _ he
              omega
            · cases he
theorem evM_mono {k0 : Nat} {dflt : Nat → List Value} {P : Nat → Nat → Option mI} {Hn : Nat → List (Nat × Nat × Nat × Nat)} {mx : Nat → Nat} :
    ∀ (d n ce : Nat) (as : List Value) (h : mH) (o : mO) (h' : mH), evM k0 dflt P Hn mx d n ce as h = some (o, h') → h.length ≤ h'.length ∧ mSls h ≤ mSls h'
  | 0, _, _, _, _, _, _, he => by cases he
  | d + 1, n, ce, as, h, o, h', he => by
    unfold evM at he
    split at he
    · exact evF_mono (fun ce as h o h' => evM_mono d n ce as h o h') n _ _ _ _ _ _ _ he
    · cases he
theorem evF_thrown {k0 : Nat} {dflt : Nat → List Value} {P : Nat → Nat → Option mI} {Hn : Nat → List (Nat × Nat × Nat × Nat)} {dp : Nat} {call : Nat → List Value → mH → Option (mO × mH)} (hc : ∀ ce as h x a h', call ce as h = some (.inr (x, a), h') → h'[a]? = some (mEx x)) :
    ∀ (n mi pc : Nat) (lv : mL) (st : List Value) (h : mH) (x a : Nat) (hF : mH), evF k0 dflt P Hn dp call n mi pc lv st h = some (.inr (x, a), hF) → hF[a]? = some (mEx x)
  | 0, _, _, _, _, _, _, _, _, he => by cases he
  | n + 1, mi, pc, lv, st, h, x, a, hF, he => by
    unfold evF at he
    split at he
    · cases he
    · split at he
      · cases he
      · split at he
        · split at he
          · cases he
            simp
          · cases he
        · split at he
          · split at he
            · exact evF_thrown hc n _ _ _ _ _ _ _ _ he
            · rename_i hcl
              split at he
              · exact evF_thrown hc n _ _ _ _ _ _ _ _ he
              · split at he
                · cases he
                  exact hc _ _ _ _ _ _ hcl
                · cases he
            · cases he
          · split at he
            · exact evF_thrown hc n _ _ _ _ _ _ _ _ he
            · cases he
theorem evM_thrown {k0 : Nat} {dflt : Nat → List Value} {P : Nat → Nat → Option mI} {Hn : Nat → List (Nat × Nat × Nat × Nat)} {mx : Nat → Nat} :
    ∀ (d n ce : Nat) (as : List Value) (h : mH) (x a : Nat) (h' : mH), evM k0 dflt P Hn mx d n ce as h = some (.inr (x, a), h') → h'[a]? = some (mEx x)
  | 0, _, _, _, _, _, _, _, he => by cases he
  | d + 1, n, ce, as, h, x, a, h', he => by
    unfold evM at he
    split at he
    · exact evF_thrown (fun ce as h x a h' => evM_thrown d n ce as h x a h') n _ _ _ _ _ _ _ _ he
    · cases he
/-- a method: its name, code, locals, answer -/
abbrev mMt : Type := MethodName × ByteArray × Nat × Option FieldType
def mVr (rt : Option FieldType) (i : Instr) (o1 : Nat) : Prop := match i with
  | .ireturn => (o1 = 0 → rt = some .int) ∧ (o1 = 1 → rt = some .boolean) ∧ (o1 = 2 → rt = some .char) ∧ (o1 = 3 → rt = some .byte)
  | .lreturn => rt = some .long
  | .areturn => (∃ n, rt = some (.object n)) ∨ ∃ t, rt = some (.array t)
  | .return_ => rt = none
  | _ => True
def mVc (own : String) (cl : List vw_C) (Ts : List Cond) (mt : Nat → mMt) (Hn : Nat → List (Nat × Nat × Nat × Nat)) (en : mI) : Prop := en.2.2.2.1 = 0 → match en.1 with
  | .invokevirtual ix => (Cond.methodLink own ix (mt en.2.1).1 ∈ Ts ∨ ∃ host, Cond.methodLinkNest own ix (mt en.2.1).1 host ∈ Ts) ∧ Cond.instanceMethod (mt en.2.1).1 ∈ Ts ∧ Cond.selects (mt en.2.1).1.cls (mt en.2.1).1 (mt en.2.1).1 ∈ Ts ∧ (parseMethodDescriptor (mt en.2.1).1.desc).map (fun d => d.parameters.length) = some (en.2.2.1 - 1) ∧ 1 ≤ en.2.2.1 ∧ ∀ k, en.2.2.2.2 = .retAddr k → (∃ (T : u_T) (N : Nat), cl[k]? = some ((mt en.2.1).1.cls, T, N)) ∨ (cl[k]? = none ∧ (mKc k).1 = (mt en.2.1).1.cls)
  | .invokestatic ix => (Cond.methodLink own ix (mt en.2.1).1 ∈ Ts ∨ ∃ host, Cond.methodLinkNest own ix (mt en.2.1).1 host ∈ Ts) ∧ Cond.static (mt en.2.1).1 ∈ Ts ∧ (parseMethodDescriptor (mt en.2.1).1.desc).map (fun d => d.parameters.length) = some en.2.2.1
  | .invokespecial ix => (mt en.2.1).1.name = "<init>" ∧ Cond.methodLink own ix (mt en.2.1).1 ∈ Ts ∧ Cond.instanceMethod (mt en.2.1).1 ∈ Ts ∧ Hn en.2.1 = [] ∧ (mt en.2.1).2.2.2 = none ∧ (parseMethodDescriptor (mt en.2.1).1.desc).map (fun d => d.parameters.length) = some (en.2.2.1 - 1) ∧ 1 ≤ en.2.2.1
  | _ => True
abbrev mUnas : Cond := .isRef (.static "java/lang/Throwable" "UNASSIGNED_STACK" "[Ljava/lang/StackTraceElement;")
abbrev mSent : Cond := .isRef (.static "java/lang/Throwable" "SUPPRESSED_SENTINEL" "Ljava/util/List;")
abbrev mUnasL : Cond := .laysStatic "java/lang/Throwable" "UNASSIGNED_STACK" "[Ljava/lang/StackTraceElement;"
abbrev mSentL : Cond := .laysStatic "java/lang/Throwable" "SUPPRESSED_SENTINEL" "Ljava/util/List;"
def mVt (own : String) (cl : List vw_C) (Ts : List Cond) (strs : List (String × Nat × String)) (EX : Nat → String) (cc : ByteArray) (pc : Nat) (en : mI) : Prop := ∀ x, mTh en = some x → ∃ (ix kx ic : Nat) (tx : String) (T : u_T) (xk : Nat × ByteArray) (kl : Nat), en.1 = .new ix ∧ decode cc (pc + 3) = .ok (.dup, 1) ∧ (decode cc (pc + 4) = .ok (.ldc kx, 2) ∧ kl = 2 ∨ decode cc (pc + 4) = .ok (.ldc_w kx, 3) ∧ kl = 3) ∧ decode cc (pc + 4 + kl) = .ok (.invokespecial ic, 3) ∧ decode cc (pc + 4 + kl + 3) = .ok (.athrow, 1) ∧
  Cond.classLink own ix (EX x) ∈ Ts ∧ Cond.instantiable (EX x) 6 ∈ Ts ∧ Cond.initialized (EX x) ∈ Ts ∧ (own, kx, tx) ∈ strs ∧ Bundle.fit (EX x) = true ∧ mFour xk ∧ (∀ a ∈ Bundle.ownAtomsX own ic (EX x) xk.1 xk.2 ["java/lang/RuntimeException", "java/lang/Exception"], a ∈ Ts ∨ (a = mUnas ∨ a = mUnasL) ∨ (a = mSent ∨ a = mSentL)) ∧ cl[mXc x]? = some (EX x, T, 0)
/-- all that must be right of a method -/
def mVM (cl : List vw_C) (zs : List (String × String × String × Value)) (Ts : List Cond) (dflt : Nat → List Value) (strs : List (String × Nat × String)) (ncs : List (Nat × Nat)) (EX : Nat → String) (ct : Nat → Nat) (P : Nat → Nat → Option mI) (Hn : Nat → List (Nat × Nat × Nat × Nat)) (mx : Nat → Nat) (mt : Nat → mMt) (mi : Nat) : Prop :=
  plainName (mt mi).1.cls = true ∧ ((mt mi).1.cls ≠ "java/lang/invoke/MethodHandle" ∧ (mt mi).1.cls ≠ "java/lang/invoke/VarHandle") ∧ mCW (mt mi).1 (mt mi).2.1 (mt mi).2.2.1 (mt mi).2.2.2 ((Hn mi).map (fun q => (q.1, q.2.1, q.2.2.1, ct q.2.2.2))) ∈ Ts ∧ Cond.initialized (mt mi).1.cls ∈ Ts ∧ mx mi = (mt mi).2.2.1 ∧ (mt mi).2.2.1 ≤ 20 ∧
  (∀ pc en, P mi pc = some en → decode (mt mi).2.1 pc = .ok (en.1, mLn en.1 en.2.1) ∧ mV (mt mi).1.cls cl zs Ts dflt ((mt mi).1.name == "<init>") (mt mi).2.2.1 en ∧ mVr (mt mi).2.2.2 en.1 en.2.1 ∧ mVc (mt mi).1.cls cl Ts mt Hn en ∧ mVt (mt mi).1.cls cl Ts strs EX (mt mi).2.1 pc en) ∧
  (∀ q ∈ Hn mi, Cond.classLink (mt mi).1.cls (ct q.2.2.2) (EX q.2.2.2) ∈ Ts ∧ Cond.castable (EX q.2.2.2) (EX q.2.2.2) ∈ Ts ∧ (∃ (T : u_T) (N : Nat), cl[mXc q.2.2.2]? = some (EX q.2.2.2, T, N)) ∧ ∀ r ∈ Hn mi, r.2.2.2 ≠ q.2.2.2 → (q.2.2.2, r.2.2.2) ∈ ncs) ∧
  (Hn mi ≠ [] → ∀ pc en, P mi pc = some en → mTh en = none)
/-- words that stay true as the tables warm -/
def mWarm (w : Cond) : Prop := ∀ (args a' : Array Value) (s U : State), s.WarmedH U.vm → w.before args s = true → w.before a' U = true
/-- what else is known of the tables -/
def mK2 (ad : Nat → Nat) (strs : List (String × Nat × String)) (ncs : List (Nat × Nat)) (EX : Nat → String) (U : State) : Prop := (∀ q ∈ strs, ∃ a, vk_R q.1 q.2.1 q.2.2 a U) ∧ (∀ q ∈ ncs, va_Nc (EX q.1) (EX q.2) U) ∧ vk_R mRN.1 mRN.2.1 mRN.2.2.1 (ad mRN.2.2.2) U
theorem mK2.warm {ad : Nat → Nat} {strs : List (String × Nat × String)} {ncs : List (Nat × Nat)} {EX : Nat → String} {s U : State} (hW : s.WarmedH U.vm) (h : mK2 ad strs ncs EX s) : mK2 ad strs ncs EX U :=
  ⟨fun q hq => by obtain ⟨a, ha⟩ := h.1 q hq; exact ⟨a, ha.warm hW⟩, fun q hq => (h.2.1 q hq).moved hW.alike, h.2.2.warm hW⟩
/-- a contract's start and end -/
def mPc (D : va_G) (cl : List vw_C) (tyC : Nat → ClassId) (k0 sz0 : Nat) (ad : Nat → Nat) (zs : List (String × String × String × Value)) (strs : List (String × Nat × String)) (ncs : List (Nat × Nat)) (EX : Nat → String) (as : List Value) (h : mH) : Array Value → State → Prop := fun v U => v = (as.map (mT ad)).toArray ∧ mOK D cl tyC k0 sz0 ad zs U h U.heap ∧ mK2 ad strs ncs EX U
def mOut (ad : Nat → Nat) (o : mO) : Outcome := match o with
  | .inl v => .returned (v.map (mT ad))
  | .inr q => .threw (ad q.2)
def mQc (D : va_G) (cl : List vw_C) (tyC : Nat → ClassId) (k0 sz0 : Nat) (ad : Nat → Nat) (zs : List (String × String × String × Value)) (o : mO) (hF : mH) : Array Value → State → Outcome → State → Prop := fun _ st oc t => oc = mOut ad o ∧ mOK D cl tyC k0 sz0 ad zs t hF t.heap ∧ va_F (mNew sz0) st t
theorem mPc_blind {D : va_G} {cl : List vw_C} {tyC : Nat → ClassId} {k0 sz0 : Nat} {ad : Nat → Nat} {zs : List (String × String × String × Value)} {strs : List (String × Nat × String)} {ncs : List (Nat × Nat)} {EX : Nat → String} {as : List Value} {h : mH} : FrameBlind (mPc D cl tyC k0 sz0 ad zs strs ncs EX as h) := by
  intro a U g mk hp
  exact ⟨hp.1, mOK.moved (u := U) (U := U.calling g mk a) (Vm.Alike.refl U.vm) hp.2.1, mK2.warm (s := U) (U := U.calling g mk a) (State.WarmedH.refl U) hp.2.2⟩
theorem mHd_mem {x pc hp : Nat} : ∀ {hs : List (Nat × Nat × Nat × Nat)}, mHd hs pc x = some hp → ∃ q ∈ hs, q.2.2.2 = x
  | [], h => by cases h
  | q :: r, h => by
    unfold mHd at h
    split at h
    · rename_i hq
      exact ⟨q, List.mem_cons_self, hq.2.2⟩
    · obtain ⟨z, hz, hzx⟩ := mHd_mem h
      exact ⟨z, List.mem_cons_of_mem _ hz, hzx⟩
