/-! THE PROCESSOR, the reference's: shifts, jumps -/
theorem zNd_1 {τ : zS} {p : Prop} [Decidable p] (h : ¬ yS τ = 0 ∨ ¬ p) : zNd τ p = zI τ 25 4 1 := by
  unfold zNd
  rw [if_pos h]
theorem zNd_0 {τ : zS} {p : Prop} [Decidable p] (h : ¬ (¬ yS τ = 0 ∨ ¬ p)) : zNd τ p = zI τ 25 4 0 := by
  unfold zNd
  rw [if_neg h]
/-- one round of a shift -/
def gS (f : Int32) (a : Int64) : Int64 := if f = 2 then (a <<< ((Int8.ofInt 6).toInt32.toInt64 &&& 63)) &&& (1152921504606846976 - 1) else if f = 3 then a >>> ((Int8.ofInt 6).toInt32.toInt64 &&& 63) else if f = 4 then ((a <<< ((Int8.ofInt 6).toInt32.toInt64 &&& 63)) &&& (1152921504606846976 - 1)) ||| (a >>> ((Int8.ofInt 54).toInt32.toInt64 &&& 63)) else if f = 5 then (a >>> ((Int8.ofInt 6).toInt32.toInt64 &&& 63)) ||| ((a &&& 63) <<< ((Int8.ofInt 54).toInt32.toInt64 &&& 63)) else a
def gI' (f : Int32) (a : Int64) : Nat → Int64
  | 0 => a
  | k + 1 => gS f (gI' f a k)
def gN (f m : Int32) : Int32 := if f < 4 then (if 9 < m then 10 else m) else m - m / 10 * 10
def gV (w f m : Int32) : Int32 := if 4 < m then 0 else if f = 0 then ((zMag w).toInt64 <<< ((6 * m).toInt64 &&& 63) - (zMag w).toInt64 <<< ((6 * m).toInt64 &&& 63) / 1073741824 * 1073741824).toInt32 else zMag w >>> ((6 * m) &&& 31)
def qShf (R : Nat → Int32) (f m : Int32) : Nat → Int32 := if f < 2 then qSM R 0 (gV (R 0) f m) else qSB R (gI' f (zTen R) (gN f m).toNatClampNeg)
def yShi (τ : zS) (f m : Int32) : zS := if ¬ yS τ = 0 ∨ ¬ (f < 6 ∧ ¬ m < 0) then zI τ 25 4 1 else zA (zI τ 25 4 0) 27 (qShf (qR τ) f m)
abbrev sp111 (as : List Value) (σ : zS) : Option zCs := match as with
  | [.ref 183, .int f, .int m] => some (zN (yShi σ f m))
  | _ => none
/-- which jump is taken -/
def qGoes (τ : zS) (f : Int32) : Prop := if 3 < f then zHo (f - 4) (τ.1 25 5) else f < 2 ∨ (f = 2 ∧ ¬ τ.1 25 3 = 0) ∨ (f = 3 ∧ τ.1 25 3 = 0)
section RE
variable {c0 : mH} {v5 : Value}
theorem z111 (h0 : zC0 c0) : zSp c0 v5 111 sp111 := by
  intro d n as σ cs r hs hx
  unfold sp111 at hs
  split at hs
  · rename_i f m
    cases hs
    obtain ⟨d', hx⟩ := zGo hx
    refine ⟨_, _, ⟨rfl, rfl⟩, ?_⟩
    have sm : ∀ (τ : zS) (m' : Nat) (v : Int32), qR τ = qR σ → zF v5 d' n 111 m' 76 [(3, .int (zMag (qR σ 0))), (0, .ref 183), (1, .int f), (2, .int m)] [.int v] (zH c0 τ) = some r → r = zOut c0 (.inl none) (zA τ 27 (qSM (qR σ) 0 v)) := by
      intro τ m' v hτ hx
      replace hx := zTr (C := nC111) (tb := [(73, sp73), (146, sp146)]) h0 rfl rfl ⟨z73 h0, z146 h0, trivial⟩ (fun _ => false) 60 hx
      unfold qSM
      rw [← hτ]
      obtain ⟨_, _, _, (⟨p, rfl, rfl⟩ | ⟨p, rfl, rfl⟩), _, _, ⟨rfl, rfl⟩, _, hx⟩ := hx
      · rw [if_pos (show qR τ 0 &&& 1 = 1 from p)]; exact hx
      · rw [if_neg (show ¬ qR τ 0 &&& 1 = 1 from p)]; exact hx
    have long : ∀ (τ : zS) (m' : Nat), qR τ = qR σ → ¬ f < 2 → f < 6 → ¬ m < 0 → zF v5 d' n 111 m' 99 [(3, .int (zMag (qR σ 0))), (0, .ref 183), (1, .int f), (2, .int m)] [] (zH c0 τ) = some r → r = zOut c0 (.inl none) (zA τ 27 (qSB (qR σ) (gI' f (zTen (qR σ)) (gN f m).toNatClampNeg))) := by
      intro τ m' hτ f2 f6 m0 hx
      -- the rounds
      have turn : ∀ (m2 k : Nat), (k : Int) < (gN f m).toInt → k ≤ 10 → zF v5 d' n 111 m2 152 [(9, .int (Int32.ofNat k)), (4, .long (gI' f (zTen (qR σ)) k)), (8, .int (gN f m)), (6, .long 1152921504606846976), (3, .int (zMag (qR σ 0))), (0, .ref 183), (1, .int f), (2, .int m)] [] (zH c0 τ) = some r → ∃ m3, zF v5 d' n 111 m3 152 [(9, .int (Int32.ofNat (k + 1))), (4, .long (gI' f (zTen (qR σ)) (k + 1))), (8, .int (gN f m)), (6, .long 1152921504606846976), (3, .int (zMag (qR σ 0))), (0, .ref 183), (1, .int f), (2, .int m)] [] (zH c0 τ) = some r := by
        intro m2 k hk k10 hx
        have hge : ¬ mCnd .ge (Int32.ofNat k) (gN f m) = true := fun h => cGeT h (by
          rw [Int32.lt_iff_toInt_lt, zOfI (by omega)]
          exact hk)
        replace hx := zTr (C := nC111) (tb := []) h0 rfl rfl trivial (fun pc => pc.beq 152 || pc.beq 239) 80 hx
        generalize gN f m = nn at hx hge
        have hf : f = 2 ∨ f = 3 ∨ f = 4 ∨ f = 5 := by
          rw [Int32.lt_iff_toInt_lt] at f2 f6
          rw [show (2 : Int32).toInt = 2 from rfl] at f2
          rw [show (6 : Int32).toInt = 6 from rfl] at f6
          have : f.toInt = 2 ∨ f.toInt = 3 ∨ f.toInt = 4 ∨ f.toInt = 5 := by omega
          rcases this with e | e | e | e
          · exact .inl (Int32.toInt_inj.mp e)
          · exact .inr (.inl (Int32.toInt_inj.mp e))
          · exact .inr (.inr (.inl (Int32.toInt_inj.mp e)))
          · exact .inr (.inr (.inr (Int32.toInt_inj.mp e)))
        rcases hf with rfl | rfl | rfl | rfl
        · rcases hx with ⟨h1, _⟩ | ⟨h1, ⟨a2, _⟩ | ⟨a2, ⟨a3, ⟨a4, ⟨a5, m3, hm, hx⟩ | ⟨a5, _⟩⟩ | ⟨a4, _⟩⟩ | ⟨a3, _⟩⟩⟩
          · exact absurd h1 hge
          · exact absurd rfl (cNeT a2)
          · refine ⟨m3, ?_⟩
            rw [zOfS]
            exact hx
          · exact absurd (cNeF a5) (by decide)
          · exact absurd (cNeF a4) (by decide)
          · exact absurd (cNeF a3) (by decide)
        · rcases hx with ⟨h1, _⟩ | ⟨h1, ⟨a2, ⟨a3, _⟩ | ⟨a3, ⟨a4, ⟨a5, m3, hm, hx⟩ | ⟨a5, _⟩⟩ | ⟨a4, _⟩⟩⟩ | ⟨a2, _⟩⟩
          · exact absurd h1 hge
          · exact absurd rfl (cNeT a3)
          · refine ⟨m3, ?_⟩
            rw [zOfS]
            exact hx
          · exact absurd (cNeF a5) (by decide)
          · exact absurd (cNeF a4) (by decide)
          · exact absurd (cNeF a2) (by decide)
        · rcases hx with ⟨h1, _⟩ | ⟨h1, ⟨a2, ⟨a3, ⟨a4, _⟩ | ⟨a4, ⟨a5, m3, hm, hx⟩ | ⟨a5, _⟩⟩⟩ | ⟨a3, _⟩⟩ | ⟨a2, _⟩⟩
          · exact absurd h1 hge
          · exact absurd rfl (cNeT a4)
          · refine ⟨m3, ?_⟩
            rw [zOfS]
            exact hx
          · exact absurd (cNeF a5) (by decide)
          · exact absurd (cNeF a3) (by decide)
          · exact absurd (cNeF a2) (by decide)
        · rcases hx with ⟨h1, _⟩ | ⟨h1, ⟨a2, ⟨a3, ⟨a4, ⟨a5, _⟩ | ⟨a5, m3, hm, hx⟩⟩ | ⟨a4, _⟩⟩ | ⟨a3, _⟩⟩ | ⟨a2, _⟩⟩
          · exact absurd h1 hge
          · exact absurd rfl (cNeT a5)
          · refine ⟨m3, ?_⟩
            rw [zOfS]
            exact hx
          · exact absurd (cNeF a4) (by decide)
          · exact absurd (cNeF a3) (by decide)
          · exact absurd (cNeF a2) (by decide)
      have bound : (gN f m).toInt ≤ 10 ∧ 0 ≤ (gN f m).toInt := by
        have hm : 0 ≤ m.toInt := by
          rw [Int32.lt_iff_toInt_lt, show (0 : Int32).toInt = 0 from rfl] at m0
          omega
        unfold gN
        split
        · split
          · exact ⟨by decide, by decide⟩
          · rename_i h9
            rw [Int32.lt_iff_toInt_lt, show (9 : Int32).toInt = 9 from rfl] at h9
            omega
        · rw [rm10 hm]
          omega
      have all : ∀ k : Nat, (k : Int) ≤ (gN f m).toInt → ∀ m2, zF v5 d' n 111 m2 152 [(9, .int (Int32.ofNat 0)), (4, .long (gI' f (zTen (qR σ)) 0)), (8, .int (gN f m)), (6, .long 1152921504606846976), (3, .int (zMag (qR σ 0))), (0, .ref 183), (1, .int f), (2, .int m)] [] (zH c0 τ) = some r → ∃ m3, zF v5 d' n 111 m3 152 [(9, .int (Int32.ofNat k)), (4, .long (gI' f (zTen (qR σ)) k)), (8, .int (gN f m)), (6, .long 1152921504606846976), (3, .int (zMag (qR σ 0))), (0, .ref 183), (1, .int f), (2, .int m)] [] (zH c0 τ) = some r := by
        intro k
        induction k with
        | zero => exact fun _ m2 h => ⟨m2, h⟩
        | succ k ih =>
          intro hk m2 h
          obtain ⟨m3, h3⟩ := ih (by omega) m2 h
          exact turn m3 k (by omega) (by omega) h3
      have fin : ∀ m2, zF v5 d' n 111 m2 152 [(9, .int (Int32.ofNat 0)), (8, .int (gN f m)), (6, .long 1152921504606846976), (4, .long (zTen (qR σ))), (3, .int (zMag (qR σ 0))), (0, .ref 183), (1, .int f), (2, .int m)] [] (zH c0 τ) = some r → r = zOut c0 (.inl none) (zA τ 27 (qSB (qR σ) (gI' f (zTen (qR σ)) (gN f m).toNatClampNeg))) := by
        intro m2 hx
        have hx := zF_lv (b := [(9, .int (Int32.ofNat 0)), (4, .long (gI' f (zTen (qR σ)) 0)), (8, .int (gN f m)), (6, .long 1152921504606846976), (3, .int (zMag (qR σ 0))), (0, .ref 183), (1, .int f), (2, .int m)]) (by
          intro q hq
          simp only [List.mem_cons, List.not_mem_nil, or_false] at hq
          rcases hq with rfl | rfl | rfl | rfl | rfl | rfl | rfl | rfl <;> rfl) hx
        have et := tn_i bound.2
        obtain ⟨m3, hx⟩ := all (gN f m).toNatClampNeg (by omega) m2 hx
        replace hx := zTr (C := nC111) (tb := [(73, sp73), (146, sp146)]) h0 rfl rfl ⟨z73 h0, z146 h0, trivial⟩ (fun pc => pc.beq 159) 80 hx
        unfold qSB qSM
        show r = zOut c0 (.inl none) (zA τ 27 (upd (upd (qR σ) 0 (2 * ((gI' f (zTen (qR σ)) (gN f m).toNatClampNeg) >>> ((Int8.ofInt 30).toInt32.toInt64 &&& 63)).toInt32 + (if qR σ 0 &&& 1 = 1 then 1 else 0))) 7 (2 * ((gI' f (zTen (qR σ)) (gN f m).toNatClampNeg) &&& 1073741823).toInt32 + (if qR σ 7 &&& 1 = 1 then 1 else 0))))
        rw [← hτ]
        rw [← hτ] at hx
        rcases hx with ⟨h1, _, _, _, (⟨p, rfl, rfl⟩ | ⟨p, rfl, rfl⟩), _, _, ⟨rfl, rfl⟩, _, _, _, _, (⟨q, rfl, rfl⟩ | ⟨q, rfl, rfl⟩), _, _, ⟨rfl, rfl⟩, _, hx⟩ | ⟨h1, _⟩
        · rw [zA_zA] at hx
          rw [if_pos (show qR τ 0 &&& 1 = 1 from p), if_pos (show qR τ 7 &&& 1 = 1 from q)]
          exact hx
        · rw [zA_zA] at hx
          rw [if_pos (show qR τ 0 &&& 1 = 1 from p), if_neg (show ¬ qR τ 7 &&& 1 = 1 from q)]
          exact hx
        · rw [zA_zA] at hx
          rw [if_neg (show ¬ qR τ 0 &&& 1 = 1 from p), if_pos (show qR τ 7 &&& 1 = 1 from q)]
          exact hx
        · rw [zA_zA] at hx
          rw [if_neg (show ¬ qR τ 0 &&& 1 = 1 from p), if_neg (show ¬ qR τ 7 &&& 1 = 1 from q)]
          exact hx
        · exfalso
          have h1 : Int32.ofNat (gN f m).toNatClampNeg < gN f m := cGeF h1
          have h1 := Int32.lt_iff_toInt_lt.mp h1
          rw [zOfI (by omega)] at h1
          omega
      replace hx := zTr (C := nC111) (tb := [(70, sp70)]) h0 rfl rfl ⟨z70 h0, trivial⟩ (fun pc => pc.beq 152) 80 hx
      obtain ⟨_, _, _, ⟨rfl, rfl⟩, hx⟩ := hx
      have e7 : qR σ 7 = qR τ 7 := by rw [hτ]
      rcases hx with ⟨h1, _, m2, hm, hx⟩ | ⟨h1, ⟨h2, m2, hm, hx⟩ | ⟨h2, m2, hm, hx⟩⟩
      · refine fin m2 ?_
        unfold gN zTen
        rw [e7, if_neg (show ¬ f < 4 from cGeT h1)]
        exact hx
      · refine fin m2 ?_
        unfold gN zTen
        rw [e7, if_pos (show f < 4 from cGeF h1), if_neg (show ¬ 9 < m from cLeT h2)]
        exact hx
      · refine fin m2 ?_
        unfold gN zTen
        rw [e7, if_pos (show f < 4 from cGeF h1), if_pos (show 9 < m from cLeF h2)]
        exact hx
    have go : ∀ (b : Int32) (m' : Nat), (b = 1 ∧ (f < 6 ∧ ¬ m < 0) ∨ b = 0 ∧ ¬ (f < 6 ∧ ¬ m < 0)) → zF v5 d' n 111 m' 19 [(0, .ref 183), (1, .int f), (2, .int m)] [] (zH c0 (zNd σ (¬ b = 0))) = some r → r = zOut c0 (.inl none) (yShi σ f m) := by
      intro b m' hb hx
      unfold yShi
      by_cases hq : ¬ yS σ = 0 ∨ ¬ (f < 6 ∧ ¬ m < 0)
      · rw [if_pos hq]
        rw [zNd_1 (hq.elim .inl (fun e => .inr (fun w => by
          rcases hb with ⟨_, e2⟩ | ⟨e2, _⟩
          · exact e e2
          · exact w e2)))] at hx
        replace hx := zTr (C := nC111) (tb := []) h0 rfl rfl trivial (fun pc => pc.beq 27) 60 hx
        rcases hx with ⟨h1, m2, hm, hx⟩ | ⟨h1, hx⟩
        · exact absurd (show (1 : Int32) = 0 from cEqT h1) (by decide)
        · exact hx
      · rw [if_neg hq]
        have hg : f < 6 ∧ ¬ m < 0 := Decidable.not_not.mp (fun e => hq (.inr e))
        have hb1 : b = 1 := by
          rcases hb with ⟨e, _⟩ | ⟨_, e⟩
          · exact e
          · exact absurd hg e
        subst hb1
        rw [zNd_0 (fun w => w.elim (fun e => hq (.inl e)) (fun e => e (by decide)))] at hx
        replace hx := zTr (C := nC111) (tb := [(70, sp70)]) h0 rfl rfl ⟨z70 h0, trivial⟩ (fun pc => pc.beq 76 || pc.beq 99) 60 hx
        rcases hx with ⟨h1, _, _, _, ⟨rfl, rfl⟩, hx⟩ | ⟨h1, hx⟩
        · unfold qShf
          rcases hx with ⟨h2, m2, hm, hx⟩ | ⟨h2, hx⟩
          · rw [if_neg (show ¬ f < 2 from cGeT h2)]
            exact long (zI σ 25 4 0) m2 rfl (cGeT h2) hg.1 hg.2 hx
          · rw [if_pos (show f < 2 from cGeF h2)]
            unfold gV
            rcases hx with ⟨h3, ⟨h4, m2, hm, hx⟩ | ⟨h4, _, m2, hm, hx⟩⟩ | ⟨h3, m2, hm, hx⟩
            · rw [if_neg (show ¬ 4 < m from cLeT h3), if_neg (cNeT h4)]
              exact sm (zI σ 25 4 0) m2 _ rfl hx
            · rw [if_neg (show ¬ 4 < m from cLeT h3), if_pos (cNeF h4)]
              exact sm (zI σ 25 4 0) m2 _ rfl hx
            · rw [if_pos (show 4 < m from cLeF h3)]
              exact sm (zI σ 25 4 0) m2 _ rfl hx
        · exact absurd rfl (cEqF h1)
    replace hx := zTr (C := nC111) (tb := [(113, sp113)]) h0 rfl rfl ⟨z113 h0, trivial⟩ (fun pc => pc.beq 19) 60 hx
    rcases hx with ⟨h1, _, _, ⟨rfl, rfl⟩, m', hm, hx⟩ | ⟨h1, ⟨h2, _, _, ⟨rfl, rfl⟩, m', hm, hx⟩ | ⟨h2, _, _, ⟨rfl, rfl⟩, m', hm, hx⟩⟩
    · exact go 0 m' (.inr ⟨rfl, fun q => cGeT h1 q.1⟩) hx
    · exact go 0 m' (.inr ⟨rfl, fun q => q.2 (cLtT h2)⟩) hx
    · exact go 1 m' (.inl ⟨rfl, cGeF h1, cLtF h2⟩) hx
  · cases hs
end RE
