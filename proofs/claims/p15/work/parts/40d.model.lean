/-! THE REFERENCE'S LOOP OVER THE CHARACTERS -/
section CW
variable {dflt : Nat → List Value} {cods : Nat → List (Option mI)} {Hn : Nat → List (Nat × Nat × Nat × Nat)}
theorem cLt32 (x y : Int32) : mCnd .lt x y = decide (x.toInt < y.toInt) := by
  unfold mCnd
  exact decide_eq_decide.mpr Int32.lt_iff_toInt_lt
theorem cGt32 (x y : Int32) : mCnd .gt x y = decide (y.toInt < x.toInt) := by
  unfold mCnd
  exact decide_eq_decide.mpr Int32.lt_iff_toInt_lt
theorem cEq32 (x y : Int32) : mCnd .eq x y = decide (x.toInt = y.toInt) := by
  unfold mCnd
  exact decide_eq_decide.mpr Int32.toInt_inj.symm
def cT (x lo hi : Int32) : mL := [(0, .int x), (1, .int lo), (2, .int hi)]
theorem cW (mx : Nat → Nat) (hC : cods 36 = nC36) (hM : mx 36 = 3) (d : Nat) (x lo hi : Int32) (h : mH) : ∃ n, evM 158 dflt (mP' cods) Hn mx (d + 1) n 36 [.int x, .int lo, .int hi] h = some (.inl (some (.int (if lo.toInt ≤ x.toInt ∧ x.toInt ≤ hi.toInt then 1 else 0))), h) := by
  obtain ⟨c1, hcl⟩ := rLim (k0 := 158) (dflt := dflt) (P := mP' cods) (Hn := Hn) (mx := mx) d
  have s1 := eW.r (k0 := 158) (dflt := dflt) (Hn := Hn) (dp := d + 1) (call := c1) (mP'_ok hC) 2 (show eR 158 dflt nC36 2 0 (cT x lo hi) [] h = some (2, cT x lo hi, [.int lo, .int x], h) from rfl)
  have fin : ∀ b : Int32, (b = 0 ∨ b = 1) → ∃ n, evF 158 dflt (mP' cods) Hn (d + 1) c1 n 36 15 (cT x lo hi) [.int b] h = some (.inl (some (.int b)), h) := by
    intro b hb
    refine ⟨1, ?_⟩
    conv => lhs; unfold evF
    rw [mP'_ok hC 15 _ rfl]
    dsimp only
    rw [show mRt .ireturn 1 [.int b] = some (some (.int b)) from if_pos hb]
  have no : ∃ n, evF 158 dflt (mP' cods) Hn (d + 1) c1 n 36 14 (cT x lo hi) [] h = some (.inl (some (.int 0)), h) := by
    have u1 := eW.r (k0 := 158) (dflt := dflt) (Hn := Hn) (dp := d + 1) (call := c1) (mP'_ok hC) 1 (show eR 158 dflt nC36 1 14 (cT x lo hi) [] h = some (15, cT x lo hi, [.int 0], h) from rfl)
    exact u1 _ (fin 0 (Or.inl rfl))
  have go : ∃ n, evF 158 dflt (mP' cods) Hn (d + 1) c1 n 36 0 (cT x lo hi) [] h = some (.inl (some (.int (if lo.toInt ≤ x.toInt ∧ x.toInt ≤ hi.toInt then 1 else 0))), h) := by
    by_cases h1 : x.toInt < lo.toInt
    · have s2 := eW.icmp (k0 := 158) (dflt := dflt) (P := mP' cods) (Hn := Hn) (dp := d + 1) (call := c1) (lv := cT x lo hi) (h := h) (r := []) (mP'_ok hC 2 _ rfl) ((cLt32 x lo).trans (decide_eq_true h1)) (show mBr true 2 12 [] = some (14, []) from rfl)
      rw [if_neg (by omega)]
      exact (s1.trans s2) _ no
    · have s2 := eW.icmp (k0 := 158) (dflt := dflt) (P := mP' cods) (Hn := Hn) (dp := d + 1) (call := c1) (lv := cT x lo hi) (h := h) (r := []) (mP'_ok hC 2 _ rfl) ((cLt32 x lo).trans (decide_eq_false h1)) (show mBr false 2 12 [] = some (5, []) from rfl)
      have s3 := eW.r (k0 := 158) (dflt := dflt) (Hn := Hn) (dp := d + 1) (call := c1) (mP'_ok hC) 2 (show eR 158 dflt nC36 2 5 (cT x lo hi) [] h = some (7, cT x lo hi, [.int hi, .int x], h) from rfl)
      by_cases h2 : hi.toInt < x.toInt
      · have s4 := eW.icmp (k0 := 158) (dflt := dflt) (P := mP' cods) (Hn := Hn) (dp := d + 1) (call := c1) (lv := cT x lo hi) (h := h) (r := []) (mP'_ok hC 7 _ rfl) ((cGt32 x hi).trans (decide_eq_true h2)) (show mBr true 7 7 [] = some (14, []) from rfl)
        rw [if_neg (by omega)]
        exact (((s1.trans s2).trans s3).trans s4) _ no
      · have s4 := eW.icmp (k0 := 158) (dflt := dflt) (P := mP' cods) (Hn := Hn) (dp := d + 1) (call := c1) (lv := cT x lo hi) (h := h) (r := []) (mP'_ok hC 7 _ rfl) ((cGt32 x hi).trans (decide_eq_false h2)) (show mBr false 7 7 [] = some (10, []) from rfl)
        have s5 := eW.r (k0 := 158) (dflt := dflt) (Hn := Hn) (dp := d + 1) (call := c1) (mP'_ok hC) 2 (show eR 158 dflt nC36 2 10 (cT x lo hi) [] h = some (15, cT x lo hi, [.int 1], h) from rfl)
        rw [if_pos (by omega)]
        exact ((((s1.trans s2).trans s3).trans s4).trans s5) _ (fin 1 (Or.inr rfl))
  obtain ⟨n, hn⟩ := go
  exact rLimM hcl (by rw [hM]; exact (show 3 ≤ 3 by decide)) hn
end CW
section CB
variable {dflt : Nat → List Value} {cods : Nat → List (Option mI)} {Hn : Nat → List (Nat × Nat × Nat × Nat)} {dp : Nat} {call : Nat → List Value → mH → Option (mO × mH)} {E : Int64} {k : Nat} {h : mH} {v0 : Value}
def cU (i k : Nat) (g : Int32) (v0 : Value) (E : Int64) : mL := [(5, .int (Int32.ofNat i)), (4, .int g), (0, v0), (1, .long E), (3, .int (Int32.ofNat k))]
set_option maxHeartbeats 1000000 in
theorem cB_loop (hC : cods 4 = nC4) (hk : k ≤ 8) (hcall : ∀ (x lo hi : Int32), call 36 [.int x, .int lo, .int hi] h = some (.inl (some (.int (if lo.toInt ≤ x.toInt ∧ x.toInt ≤ hi.toInt then 1 else 0))), h)) : ∀ (m i : Nat) (g : Int32), i + m = k → ((g = 1 ∧ ∀ j, j < i → rGk E j = true) ∨ (g = 0 ∧ ¬ k ≤ rGb E)) → eW (fun n => evF 158 dflt (mP' cods) Hn dp call n 4) 27 (cU i k g v0 E) [] h 84 (cU k k (if k ≤ rGb E then 1 else 0) v0 E) [] h
  | 0, i, g, hm, hg => by
    obtain rfl : i = k := by omega
    have s1 := eW.r (k0 := 158) (dflt := dflt) (Hn := Hn) (dp := dp) (call := call) (mP'_ok hC) 2 (show eR 158 dflt nC4 2 27 (cU i i g v0 E) [] h = some (30, cU i i g v0 E, [.int (Int32.ofNat i), .int (Int32.ofNat i)], h) from rfl)
    have s2 := eW.icmp (k0 := 158) (dflt := dflt) (P := mP' cods) (Hn := Hn) (dp := dp) (call := call) (lv := cU i i g v0 E) (h := h) (r := []) (mP'_ok hC 30 _ rfl) ((cCi hk hk).trans (decide_eq_true (Nat.le_refl i))) (show mBr true 30 54 [] = some (84, []) from rfl)
    have e : g = (if i ≤ rGb E then 1 else 0) := by
      rcases hg with ⟨rfl, h1⟩ | ⟨rfl, h1⟩
      · rw [if_pos (rGb_ge hk h1)]
      · rw [if_neg h1]
    rw [← e]
    exact s1.trans s2
  | m + 1, i, g, hm, hg => by
    have hi : i < 8 := by omega
    have s1 := eW.r (k0 := 158) (dflt := dflt) (Hn := Hn) (dp := dp) (call := call) (mP'_ok hC) 2 (show eR 158 dflt nC4 2 27 (cU i k g v0 E) [] h = some (30, cU i k g v0 E, [.int (Int32.ofNat k), .int (Int32.ofNat i)], h) from rfl)
    have s2 := eW.icmp (k0 := 158) (dflt := dflt) (P := mP' cods) (Hn := Hn) (dp := dp) (call := call) (lv := cU i k g v0 E) (h := h) (r := []) (mP'_ok hC 30 _ rfl) ((cCi (Nat.le_of_lt hi) hk).trans (decide_eq_false (show ¬ k ≤ i by omega))) (show mBr false 30 54 [] = some (33, []) from rfl)
    let c : Int64 := (E >>> (((Int8.ofInt 8).toInt32 * Int32.ofNat i).toInt64 &&& 63)) &&& 255
    have hc : c = (E >>> Int64.ofNat (8 * i)) &&& 255 := by show (E >>> (((Int8.ofInt 8).toInt32 * Int32.ofNat i).toInt64 &&& 63)) &&& 255 = _; rw [cSh' hi]
    have hgk : rGk E i = (decide (c.toInt = 10) || (decide (32 ≤ c.toInt) && decide (c.toInt ≤ 126))) := by rw [hc]; rfl
    have hcb : 0 ≤ c.toInt ∧ c.toInt ≤ 255 := cAnd _
    have hci : c.toInt32.toInt = c.toInt := by
      rw [Int64.toInt_toInt32]
      exact rBm (by unfold rI0; omega) (by unfold rI1; omega)
    have s3 := eW.r (k0 := 158) (dflt := dflt) (Hn := Hn) (dp := dp) (call := call) (mP'_ok hC) 9 (show eR 158 dflt nC4 9 33 (cU i k g v0 E) [] h = some (47, (6, .int c.toInt32) :: cU i k g v0 E, [], h) from rfl)
    have s4 := eW.r (k0 := 158) (dflt := dflt) (Hn := Hn) (dp := dp) (call := call) (mP'_ok hC) 1 (show eR 158 dflt nC4 1 47 ((6, .int c.toInt32) :: cU i k g v0 E) [] h = some (49, (6, .int c.toInt32) :: cU i k g v0 E, [.int g], h) from rfl)
    have t1 := ((s1.trans s2).trans s3).trans s4
    have e1 : Int32.ofNat i + Int32.ofInt 1 = Int32.ofNat (i + 1) := by
      have key : ∀ i : Fin 8, Int32.ofNat i.val + Int32.ofInt 1 = Int32.ofNat (i.val + 1) := by decide
      exact key ⟨i, hi⟩
    have fin : ∀ b : Int32, rSubl (cU (i + 1) k b v0 E) ((5, .int (Int32.ofNat i + Int32.ofInt 1)) :: (4, .int b) :: (6, .int c.toInt32) :: [(0, v0), (1, .long E), (3, .int (Int32.ofNat k))]) := by
      intro b q hq
      rw [e1]
      simp only [cU, List.mem_cons, List.not_mem_nil, or_false] at hq
      rcases hq with rfl | rfl | rfl | rfl | rfl <;> rfl
    have one : eW (fun n => evF 158 dflt (mP' cods) Hn dp call n 4) 71 ((6, .int c.toInt32) :: cU i k g v0 E) [] h 27 (cU (i + 1) k 1 v0 E) [] h := by
      have u1 := eW.r (k0 := 158) (dflt := dflt) (Hn := Hn) (dp := dp) (call := call) (mP'_ok hC) 5 (show eR 158 dflt nC4 5 71 ((6, .int c.toInt32) :: cU i k g v0 E) [] h = some (27, (5, .int (Int32.ofNat i + Int32.ofInt 1)) :: (4, .int 1) :: (6, .int c.toInt32) :: [(0, v0), (1, .long E), (3, .int (Int32.ofNat k))], [], h) from rfl)
      exact u1.trans (eW.lv (fin 1))
    have zero : eW (fun n => evF 158 dflt (mP' cods) Hn dp call n 4) 75 ((6, .int c.toInt32) :: cU i k g v0 E) [] h 27 (cU (i + 1) k 0 v0 E) [] h := by
      have u1 := eW.r (k0 := 158) (dflt := dflt) (Hn := Hn) (dp := dp) (call := call) (mP'_ok hC) 4 (show eR 158 dflt nC4 4 75 ((6, .int c.toInt32) :: cU i k g v0 E) [] h = some (27, (5, .int (Int32.ofNat i + Int32.ofInt 1)) :: (4, .int 0) :: (6, .int c.toInt32) :: [(0, v0), (1, .long E), (3, .int (Int32.ofNat k))], [], h) from rfl)
      exact u1.trans (eW.lv (fin 0))
    rcases hg with ⟨rfl, hg⟩ | ⟨rfl, hg⟩
    · have s5 := eW.cond (k0 := 158) (dflt := dflt) (P := mP' cods) (Hn := Hn) (dp := dp) (call := call) (lv := (6, .int c.toInt32) :: cU i k 1 v0 E) (h := h) (x := 1) (r := []) (mP'_ok hC 49 _ rfl) (show mCnd .eq 1 0 = false by decide) (show mBr false 49 26 [] = some (52, []) from rfl)
      have s6 := eW.r (k0 := 158) (dflt := dflt) (Hn := Hn) (dp := dp) (call := call) (mP'_ok hC) 2 (show eR 158 dflt nC4 2 52 ((6, .int c.toInt32) :: cU i k 1 v0 E) [] h = some (56, (6, .int c.toInt32) :: cU i k 1 v0 E, [.int (Int8.ofInt 10).toInt32, .int c.toInt32], h) from rfl)
      have t2 := (t1.trans s5).trans s6
      have nx1 := fun ht : rGk E i = true => one.trans (cB_loop hC hk hcall m (i + 1) 1 (by omega) (Or.inl ⟨rfl, fun j hj => by
        by_cases hji : j = i
        · rw [hji]; exact ht
        · exact hg j (by omega)⟩))
      have nx0 := fun hf : rGk E i = false => zero.trans (cB_loop hC hk hcall m (i + 1) 0 (by omega) (Or.inr ⟨rfl, by have := rGb_lt hi hf; omega⟩))
      by_cases h10 : c.toInt = 10
      · have s7 := eW.icmp (k0 := 158) (dflt := dflt) (P := mP' cods) (Hn := Hn) (dp := dp) (call := call) (lv := (6, .int c.toInt32) :: cU i k 1 v0 E) (h := h) (r := []) (mP'_ok hC 56 _ rfl) ((cEq32 _ _).trans (decide_eq_true (show c.toInt32.toInt = (Int8.ofInt 10).toInt32.toInt by rw [hci, h10]; decide))) (show mBr true 56 15 [] = some (71, []) from rfl)
        exact (t2.trans s7).trans (nx1 (by rw [hgk, decide_eq_true h10, Bool.true_or]))
      · have s7 := eW.icmp (k0 := 158) (dflt := dflt) (P := mP' cods) (Hn := Hn) (dp := dp) (call := call) (lv := (6, .int c.toInt32) :: cU i k 1 v0 E) (h := h) (r := []) (mP'_ok hC 56 _ rfl) ((cEq32 _ _).trans (decide_eq_false (show ¬ c.toInt32.toInt = (Int8.ofInt 10).toInt32.toInt by rw [hci, show (Int8.ofInt 10).toInt32.toInt = 10 by decide]; exact h10))) (show mBr false 56 15 [] = some (59, []) from rfl)
        have s8 := eW.r (k0 := 158) (dflt := dflt) (Hn := Hn) (dp := dp) (call := call) (mP'_ok hC) 3 (show eR 158 dflt nC4 3 59 ((6, .int c.toInt32) :: cU i k 1 v0 E) [] h = some (65, (6, .int c.toInt32) :: cU i k 1 v0 E, [.int (Int8.ofInt 126).toInt32, .int (Int8.ofInt 32).toInt32, .int c.toInt32], h) from rfl)
        have s9 := eW_call (k0 := 158) (dflt := dflt) (Hn := Hn) (dp := dp) (lv := (6, .int c.toInt32) :: cU i k 1 v0 E) (mP'_ok hC 65 _ rfl) rfl rfl (show mCl (.invokestatic 103, 36, 3, 0, .null) [.int (Int8.ofInt 126).toInt32, .int (Int8.ofInt 32).toInt32, .int c.toInt32] h = some (36, [.int c.toInt32, .int (Int8.ofInt 32).toInt32, .int (Int8.ofInt 126).toInt32], []) from if_pos ⟨rfl, rfl, (show 3 ≤ 3 by decide), (show 0 ≤ 8 by decide), rfl⟩) (hcall c.toInt32 (Int8.ofInt 32).toInt32 (Int8.ofInt 126).toInt32)
        have t3 := ((t2.trans s7).trans s8).trans s9
        have n32 : (Int8.ofInt 32).toInt32.toInt = 32 := by decide
        have n126 : (Int8.ofInt 126).toInt32.toInt = 126 := by decide
        by_cases hr : 32 ≤ c.toInt ∧ c.toInt ≤ 126
        · have e3 : (if (Int8.ofInt 32).toInt32.toInt ≤ c.toInt32.toInt ∧ c.toInt32.toInt ≤ (Int8.ofInt 126).toInt32.toInt then (1 : Int32) else 0) = 1 := if_pos (by rw [n32, n126, hci]; exact hr)
          rw [e3] at t3
          have s10 := eW.cond (k0 := 158) (dflt := dflt) (P := mP' cods) (Hn := Hn) (dp := dp) (call := call) (lv := (6, .int c.toInt32) :: cU i k 1 v0 E) (h := h) (x := 1) (r := []) (mP'_ok hC 68 _ rfl) (show mCnd .eq 1 0 = false by decide) (show mBr false 68 7 [] = some (71, []) from rfl)
          exact (t3.trans s10).trans (nx1 (by rw [hgk, decide_eq_false h10, decide_eq_true hr.1, decide_eq_true hr.2]; rfl))
        · have e3 : (if (Int8.ofInt 32).toInt32.toInt ≤ c.toInt32.toInt ∧ c.toInt32.toInt ≤ (Int8.ofInt 126).toInt32.toInt then (1 : Int32) else 0) = 0 := if_neg (by rw [n32, n126, hci]; exact hr)
          rw [e3] at t3
          have s10 := eW.cond (k0 := 158) (dflt := dflt) (P := mP' cods) (Hn := Hn) (dp := dp) (call := call) (lv := (6, .int c.toInt32) :: cU i k 1 v0 E) (h := h) (x := 0) (r := []) (mP'_ok hC 68 _ rfl) (show mCnd .eq 0 0 = true by decide) (show mBr true 68 7 [] = some (75, []) from rfl)
          refine (t3.trans s10).trans (nx0 ?_)
          rw [hgk, decide_eq_false h10]
          by_cases q1 : 32 ≤ c.toInt
          · rw [decide_eq_true q1, decide_eq_false (show ¬ c.toInt ≤ 126 by omega)]; rfl
          · rw [decide_eq_false q1]; rfl
    · have s5 := eW.cond (k0 := 158) (dflt := dflt) (P := mP' cods) (Hn := Hn) (dp := dp) (call := call) (lv := (6, .int c.toInt32) :: cU i k 0 v0 E) (h := h) (x := 0) (r := []) (mP'_ok hC 49 _ rfl) (show mCnd .eq 0 0 = true by decide) (show mBr true 49 26 [] = some (75, []) from rfl)
      exact (t1.trans s5).trans (zero.trans (cB_loop hC hk hcall m (i + 1) 0 (by omega) (Or.inr ⟨rfl, hg⟩)))
end CB
