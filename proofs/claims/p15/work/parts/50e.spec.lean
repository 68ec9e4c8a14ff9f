/-! WHAT A METHOD DOES: its cases -/
def zSp (c0 : mH) (v5 : Value) (mi : Nat) (sp : List Value → zS → Option zCs) : Prop := ∀ (d n : Nat) (as : List Value) (σ : zS) (cs : zCs) (r : mO × mH), sp as σ = some cs → evM 158 nDflt (mP' (nCodw v5)) nHn nMxx' d n mi as (zH c0 σ) = some r → ∃ o σ', cs o σ' ∧ r = zOut c0 o σ'
abbrev zTb : Type := List (Nat × (List Value → zS → Option zCs))
def zOr (tb : zTb) (ce : Nat) (as : List Value) (σ : zS) : Option zCs := match tb with
  | [] => none
  | p :: r => match Nat.beq p.1 ce with
    | true => p.2 as σ
    | false => zOr r ce as σ
def zAll (c0 : mH) (v5 : Value) (tb : zTb) : Prop := match tb with
  | [] => True
  | p :: r => zSp c0 v5 p.1 p.2 ∧ zAll c0 v5 r
/-- a run within a method -/
def zF (v5 : Value) (d n0 mi m pc : Nat) (lv : mL) (st : List Value) (h : mH) : Option (mO × mH) := evF 158 nDflt (mP' (nCodw v5)) nHn (d + 1) (evM 158 nDflt (mP' (nCodw v5)) nHn nMxx' d n0) m mi pc lv st h
section SP
variable {c0 : mH} {v5 : Value} {tb : zTb} {d n mi m pc : Nat} {as : List Value} {lv : mL} {st : List Value} {σ : zS} {r : mO × mH} {h : mH} {C : List (Option mI)}
theorem zOr_ok : ∀ {tb : zTb}, zAll c0 v5 tb → ∀ {ce : Nat} {as : List Value} {σ : zS} {cs : zCs} {r : mO × mH}, zOr tb ce as σ = some cs → ∀ {d n : Nat}, evM 158 nDflt (mP' (nCodw v5)) nHn nMxx' d n ce as (zH c0 σ) = some r → ∃ o σ', cs o σ' ∧ r = zOut c0 o σ'
  | [], _, ce, as, σ, cs, r, hc, d, n, hx => by cases hc
  | p :: tb, ht, ce, as, σ, cs, r, hc, d, n, hx => by
    unfold zOr at hc
    split at hc
    · rename_i hb
      cases Nat.eq_of_beq_eq_true hb
      exact ht.1 d n as σ cs r hc hx
    · exact zOr_ok ht.2 hc hx
theorem zGo (hx : evM 158 nDflt (mP' (nCodw v5)) nHn nMxx' d n mi as h = some r) : ∃ d', zF v5 d' n mi n 0 (lv_args 0 as) [] h = some r := by
  cases d with
  | zero => cases hx
  | succ d =>
    unfold evM at hx
    split at hx
    · exact ⟨d, hx⟩
    · cases hx
theorem zTr (h0 : zC0 c0) (hC : nCodw v5 mi = C) (hH : nHn mi = []) (ht : zAll c0 v5 tb) (cut : Nat → Bool) (j : Nat) (hx : zF v5 d n mi m pc lv st (zH c0 σ) = some r) : tF C (zOr tb) cut (fun i pc lv st σ => ∃ m', m' + i = m ∧ zF v5 d n mi m' pc lv st (zH c0 σ) = some r) (fun o σ => r = zOut c0 o σ) j 0 pc lv st σ :=
  tF_ok (dflt := nDflt) (P := mP' (nCodw v5)) (Hn := nHn) (dp := d + 1) (call := evM 158 nDflt (mP' (nCodw v5)) nHn nMxx' d n) h0 (mP'_ok hC) hH (fun _ _ _ _ _ hc hr => zOr_ok ht hc hr) j 0 m pc lv st σ rfl hx
theorem zF_lv {a b : mL} (hs : rSubl a b) (hx : zF v5 d n mi m pc a st h = some r) : zF v5 d n mi m pc b st h = some r := evF_lv m hs hx
end SP
