/-! THE LAW'S LOOP: the window -/
theorem eS_len {k0 : Nat} {dflt : Nat → List Value} {o : Nat × Nat × Nat × Value} {pc a L : Nat} {lv : mL} {r : List Value} {h : mH} {f : Nat → Int32} (hc : h[a]? = some (some (.inl (4, L, .inl f)))) : eS k0 dflt (.arraylength, o) pc lv (.ref a :: r) h = some (pc + 1, lv, .int (Int32.ofNat L) :: r, h) := by
  have e1 : mG .arraylength o.1 o.2.1 o.2.2.2 (.ref a :: r) h = some (.int (Int32.ofNat L) :: r) := by
    unfold mG
    dsimp only
    rw [hc]
    rfl
  simp [eS, mRt, mTh, mNw, mCl, mIv, mNx, mA, mB, mD, mJ, e1, mLen]
theorem rOfN {n : Nat} (h : n ≤ 10000) : (Int32.ofNat n).toInt = n := by
  have e : Int32.ofNat n = Int32.ofInt n := rfl
  rw [e]
  exact rInt (by unfold rI0; omega) (by unfold rI1; omega)
/-- the numbers of a window -/
def nWv (f : Nat → Int32) (i : Nat) : List Int := [(f i).toInt, (f (i + 1)).toInt, (f (i + 2)).toInt, (f (i + 3)).toInt, (f (i + 4)).toInt, (((f (i + 1)).toInt64 <<< 32) ||| ((f (i + 2)).toInt64 &&& 4294967295)).toInt, (rGb (((f (i + 1)).toInt64 <<< 32) ||| ((f (i + 2)).toInt64 &&& 4294967295)) : Int)]
theorem rOk_w {ρ : List Int} {fs : rF} (hO : rOk ρ fs) (f : Nat → Int32) (i : Nat) : rOk (ρ ++ nWv f i) (fs ++ nWf) := by
  have b := fun x : Int32 => rAny x (Int.le_refl _) (Int.le_refl _)
  have l := fun x : Int64 => rAnyL x
  have h1 := hO.push (b (f i)).1 (b (f i)).2 (by decide) (by decide)
  have h2 := h1.push (b (f (i + 1))).1 (b (f (i + 1))).2 (by decide) (by decide)
  have h3 := h2.push (b (f (i + 2))).1 (b (f (i + 2))).2 (by decide) (by decide)
  have h4 := h3.push (b (f (i + 3))).1 (b (f (i + 3))).2 (by decide) (by decide)
  have h5 := h4.push (b (f (i + 4))).1 (b (f (i + 4))).2 (by decide) (by decide)
  have h6 := h5.push (l (((f (i + 1)).toInt64 <<< 32) ||| ((f (i + 2)).toInt64 &&& 4294967295))).1 (l _).2 (by decide) (by decide)
  have g8 := rGb_le (((f (i + 1)).toInt64 <<< 32) ||| ((f (i + 2)).toInt64 &&& 4294967295))
  have h7 := h6.push (z := (rGb (((f (i + 1)).toInt64 <<< 32) ||| ((f (i + 2)).toInt64 &&& 4294967295)) : Int)) (l := 0) (u := 8) (by omega) (by omega) (by decide) (by decide)
  simp only [List.append_assoc, List.cons_append, List.nil_append] at h7
  exact h7
theorem rE_at {ρ : List Int} {id : Nat} {x : Int32} (hid : id < 60000) (h : ρ[id]? = some x.toInt) : rE ρ (rMk id 0) = some (.int x) := by
  obtain ⟨b, e1, e2, e3⟩ := rMk_id (id := id) (off := 0) hid (by omega) (by omega)
  rw [e1, rE_f, e2, e3, h]
  show some (Value.int (Int32.ofInt (x.toInt + 0))) = _
  rw [Int.add_zero, Int32.ofInt_toInt]
theorem rW_at {ρ w : List Int} {n j : Nat} (hn : ρ.length = n) : (ρ ++ w)[n + j]? = w[j]? := by
  rw [List.getElem?_append_right (by omega)]
  congr 1
  omega
theorem nTf_len : nTf.length = 83 := by decide
theorem nT_win : nWin nT.2.2.2.2.1 = some [rMk 0 0, rMk 75 0, rMk 76 0, rMk 77 0, rMk 78 0, rMk 79 0, rMk 80 0, .double 81, rMk 82 0] := rfl
theorem nT_0 : rRg nTf (rMk 0 0) = some (5, 2560) := by decide
theorem nT_8 : rRg nTf (rMk 8 0) = some (0, 2560) := by decide
/-- the window at i -/
theorem nWc_ok {ρ : List Int} {f : Nat → Int32} {L : Nat} {x : Int32} (hn : ρ.length = 83) (hL : L ≤ 10000) (h0 : 0 ≤ x.toInt) (h5 : x.toInt + 5 ≤ L) (r0 : rE ρ (rMk 0 0) = some (.int (Int32.ofNat L))) (r8 : rE ρ (rMk 8 0) = some (.int x)) : rCr (ρ ++ nWv f x.toInt.toNat) (some nWc) (some (.inl (4, L, .inl f))) := by
  have g8 := rGb_le (((f (x.toInt.toNat + 1)).toInt64 <<< 32) ||| ((f (x.toInt.toNat + 2)).toInt64 &&& 4294967295))
  have a := fun (j : Nat) (y : Int32) (hj : j < 100) (hy : (nWv f x.toInt.toNat)[j]? = some y.toInt) => rE_at (ρ := ρ ++ nWv f x.toInt.toNat) (id := 83 + j) (x := y) (by omega) ((rW_at hn).trans hy)
  have k0 := a 0 (f x.toInt.toNat) (by decide) rfl
  have k1 := a 1 (f (x.toInt.toNat + 1)) (by decide) rfl
  have k2 := a 2 (f (x.toInt.toNat + 2)) (by decide) rfl
  have k3 := a 3 (f (x.toInt.toNat + 3)) (by decide) rfl
  have k4 := a 4 (f (x.toInt.toNat + 4)) (by decide) rfl
  have k6 := a 6 (Int32.ofNat (rGb (((f (x.toInt.toNat + 1)).toInt64 <<< 32) ||| ((f (x.toInt.toNat + 2)).toInt64 &&& 4294967295)))) (by decide) (by rw [rG8 g8]; rfl)
  have k5 : rE (ρ ++ nWv f x.toInt.toNat) (.double 88) = some (.long (((f (x.toInt.toNat + 1)).toInt64 <<< 32) ||| ((f (x.toInt.toNat + 2)).toInt64 &&& 4294967295))) := by
    have e : (ρ ++ nWv f x.toInt.toNat)[(88 : UInt64).toNat]? = some (((f (x.toInt.toNat + 1)).toInt64 <<< 32) ||| ((f (x.toInt.toNat + 2)).toInt64 &&& 4294967295)).toInt := (rW_at (n := 83) (j := 5) hn)
    rw [rE_d, e]
    show some (Value.long (Int64.ofInt _)) = _
    rw [Int64.ofInt_toInt]
  exact ⟨_, rEs_mk (rE_ext _ r0) (rEs_mk (rE_ext _ r8) (rEs_mk k0 (rEs_mk k1 (rEs_mk k2 (rEs_mk k3 (rEs_mk k4 (rEs_mk k5 (rEs_mk k6 rfl)))))))), L, f, x, _, _, _, _, _, rfl, hL, h0, h5, rfl, rfl, rfl, rfl, rfl, rfl⟩
theorem wv {ρ : List Int} {f : Nat → Int32} {i : Nat} (hn : ρ.length = 83) : rE (ρ ++ nWv f i) (rMk 84 0) = some (.int (f (i + 1))) ∧ rE (ρ ++ nWv f i) (rMk 85 0) = some (.int (f (i + 2))) ∧ rE (ρ ++ nWv f i) (rMk 86 0) = some (.int (f (i + 3))) ∧ rE (ρ ++ nWv f i) (rMk 87 0) = some (.int (f (i + 4))) ∧ rE (ρ ++ nWv f i) (.double 88) = some (.long (((f (i + 1)).toInt64 <<< 32) ||| ((f (i + 2)).toInt64 &&& 4294967295))) := by
  have a := fun (j : Nat) (y : Int32) (hj : j < 100) (hy : (nWv f i)[j]? = some y.toInt) => rE_at (ρ := ρ ++ nWv f i) (id := 83 + j) (x := y) (by omega) ((rW_at hn).trans hy)
  refine ⟨a 1 _ (by decide) rfl, a 2 _ (by decide) rfl, a 3 _ (by decide) rfl, a 4 _ (by decide) rfl, ?_⟩
  have e : (ρ ++ nWv f i)[(88 : UInt64).toNat]? = some (((f (i + 1)).toInt64 <<< 32) ||| ((f (i + 2)).toInt64 &&& 4294967295)).toInt := (rW_at (n := 83) (j := 5) hn)
  rw [rE_d, e]
  show some (Value.long (Int64.ofInt _)) = _
  rw [Int64.ofInt_toInt]
