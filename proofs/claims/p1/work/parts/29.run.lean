/-! THE LAW ANSWERS 1, OF EVERY SCRIPT OF ONE CALL -/
theorem aCr_sz {sI : Nat → Int32} {sL : Nat → Int64} {a : aC} {c : mC} (h : aCr sI sL a c) : mSz c = aSz a := by
  match a, h with
  | none, h => rw [show c = none from h]; rfl
  | some (.inr (ci, fs)), h => rw [h.obj]; exact aSs_len fs
  | some (.inl (k, n, z)), h =>
    by_cases h1 : k = 1
    · subst h1
      obtain ⟨f, e, -⟩ := h.lng
      rw [e]; rfl
    · by_cases h5 : k = 5
      · subst h5
        obtain ⟨f, e, -⟩ := h.scr
        rw [e]; rfl
      · obtain ⟨f, e, -⟩ := h.int h1 h5
        rw [e]; rfl
theorem aHr_sls {sI : Nat → Int32} {sL : Nat → Int64} {h : aH} {hc : mH} (hh : aHr sI sL h hc) : mSls hc = (h.map aSz).sum := by
  unfold mSls
  refine congrArg List.sum (List.ext_getElem? (fun i => ?_))
  rw [List.getElem?_map, List.getElem?_map]
  cases hi : h[i]? with
  | some a =>
    obtain ⟨c, e1, e2⟩ := hh.2 i a hi
    rw [e1]
    exact congrArg some (aCr_sz e2)
  | none =>
    have : hc[i]? = none := by
      rw [List.getElem?_eq_none_iff] at hi ⊢
      rw [← hh.1]
      exact hi
    rw [this]
    rfl
theorem nHa_ok {L : Nat} (hL : L ≤ 5) (xs : Nat → Int32) : aHr (nIn xs) (nLo xs) (nHa L) (nH0 L xs) := by
  refine ⟨rfl, fun i a h => ?_⟩
  match i, h with
  | 0, h =>
    cases h
    exact ⟨_, rfl, xs, rfl, fun j hj => (nWd_in xs (by omega)).symm⟩
  | 1, h =>
    cases h
    exact ⟨_, rfl, nBusy, rfl, fun v hv => by cases hv⟩
  | 2, h => cases h; exact ⟨_, rfl, rfl⟩
  | 3, h => cases h; exact ⟨_, rfl, rfl⟩
  | 4, h => cases h; exact ⟨_, rfl, rfl⟩
  | i + 5, h => cases h
theorem nBd_ok {L : Nat} (hL : L ≤ 5) (xs : Nat → Int32) {fs : aF} (hf : aOk (nIn xs) fs) (h : nBd L fs = true) : ∃ hF, evM 5 nDflt (mP' nCods) nHn nMx 16 48000 0 [.ref 0] (nH0 L xs) = some (.inl (some (.int 1)), hF) ∧ hF.length ≤ 100 ∧ mSls hF ≤ 100000 := by
  unfold nBd at h
  split at h
  · cases h
  · rename_i rs hrs
    obtain ⟨r, r1, r2, hc', r3, r4⟩ := aM_ok (nDn xs) (N := 48000) (by decide) 16 0 [.ref 0] fs (nHa L) rs (nH0 L xs) hrs hf (nHa_ok hL xs)
    have hg := List.all_eq_true.mp h r r1
    unfold nGood at hg
    split at hg
    · rename_i x hx
      rw [Bool.and_eq_true, Bool.and_eq_true, decide_eq_true_eq, decide_eq_true_eq, beq_iff_eq] at hg
      rw [hx, hg.1.1] at r4
      exact ⟨hc', r4, by rw [← r3.1]; exact hg.1.2, by rw [aHr_sls r3]; exact hg.2⟩
    · cases hg
theorem nRun {L : Nat} (hL : L ≤ 5) (xs : Nat → Int32) : ∃ hF, evM 5 nDflt (mP' nCods) nHn nMx 16 48000 0 [.ref 0] (nH0 L xs) = some (.inl (some (.int 1)), hF) ∧ hF.length ≤ 100 ∧ mSls hF ≤ 100000 := by
  have h0 : aOk (nIn xs) [] := fun q hq => by cases hq
  match L, hL with
  | 0, hL => exact nBd_ok hL xs h0 nB0
  | 1, hL => exact nBd_ok hL xs h0 nB1
  | 2, hL => exact nBd_ok hL xs h0 nB2
  | 3, hL => exact nBd_ok hL xs h0 nB3
  | 4, hL => exact nBd_ok hL xs h0 nB4
  | 5, hL =>
    have one : ∀ {rs : List (Int × Int)}, aIn (nIn xs 5).toInt rs → aOk (nIn xs) [(5, rs)] := fun h q hq => by
      rcases List.mem_cons.mp hq with rfl | hq
      · exact h
      · cases hq
    obtain ⟨k1, k2⟩ := nAnd15 (xs 0)
    have k3 : (nIn xs 5).toInt = (xs 0 &&& 15).toInt := rfl
    rw [← k3] at k1 k2
    by_cases c0 : (nIn xs 5).toInt = 0
    · exact nBd_ok hL xs (one ⟨(0, 0), by simp, by dsimp only; omega, by dsimp only; omega⟩) nB5w
    · by_cases c2 : (nIn xs 5).toInt = 2
      · exact nBd_ok hL xs (one ⟨(2, 2), by simp, by dsimp only; omega, by dsimp only; omega⟩) nB5y
      · by_cases c1 : (nIn xs 5).toInt = 1
        · exact nBd_ok hL xs (one ⟨(1, 1), by simp, by dsimp only; omega, by dsimp only; omega⟩) nB5x
        · by_cases c10 : (nIn xs 5).toInt ≤ 10
          · exact nBd_ok hL xs (one ⟨(3, 10), by simp, by dsimp only; omega, by dsimp only; omega⟩) nB5x
          · exact nBd_ok hL xs (one ⟨(11, 15), by simp, by dsimp only; omega, by dsimp only; omega⟩) nB5z
