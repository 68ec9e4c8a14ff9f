/-! ONE INSTRUCTION on both sides: jumps, changes -/
section ST
variable {σ τ σ0 τ0 τ1 : zS} {c f m g : Int32}
theorem jw (h : pR9 σ τ) (hn : σ.1 7 9 = σ.1 7 5 + 1) (hp : 0 ≤ (σ.1 7 5).toInt ∧ (σ.1 7 5).toInt ≤ 199) : zOfL (σ.1 7 9).toInt64 = 2 * (τ.1 25 6 + 1) + 0 ∧ wOk (2 * (τ.1 25 6 + 1) + 0) := by
  have e1 : (σ.1 7 5 + 1).toInt = (σ.1 7 5).toInt + 1 := by
    rw [Int32.toInt_add, show (1 : Int32).toInt = 1 from rfl, bm32 (by omega) (by omega)]
  constructor
  · rw [hn, zOf_yOf, ← h.pl]
    unfold yOf yMade
    have hnn : ¬ σ.1 7 5 + 1 < 0 := fun q => by
      have := Int32.lt_iff_toInt_lt.mp q
      rw [show (0 : Int32).toInt = 0 from rfl] at this
      omega
    rw [if_neg hnn, if_neg hnn]
  · rw [← h.pl]
    show 0 ≤ (2 * (σ.1 7 5 + 1) + 0).toInt
    rw [Int32.add_zero, Int32.toInt_mul, e1, show (2 : Int32).toInt = 2 from rfl, bm32 (by omega) (by omega)]
    omega
theorem jm_ok {s : Int32} (w : pW σ τ σ τ1) (hs1 : ¬ s = 0) (hn : σ.1 7 9 = σ.1 7 5 + 1) (hp : 0 ≤ (σ.1 7 5).toInt ∧ (σ.1 7 5).toInt ≤ 199) (hm : pA σ = m) : exR (if zPlc (pA σ) then some (zJm σ) else none) σ τ (yJm τ1 m s) := by
  unfold yJm
  rw [hm]
  by_cases hq : qPlc m
  · rw [if_pos ((zPlc_q m).mpr hq), if_neg (show ¬ (¬ yS τ1 = 0 ∨ ¬ qPlc m) from fun q => q.elim (fun q => q w.2.2.2.2.2) (fun q => q hq)), if_neg hs1]
    obtain ⟨j1, j2⟩ := jw w.1 hn hp
    have hR : pR σ = qR τ1 := w.1.R
    have e : zJm σ = zA (zI σ 7 9 m) 8 (upd (qR τ1) 8 (2 * (τ1.1 25 6 + 1) + 0)) := by
      unfold zJm
      rw [j1, hm, hR]
    rw [e]
    exact exR_ok rfl (pW_R (pW_nx (pW_S w) m) (gOk_upd w.1.wR 8 j2 (fun _ b => absurd b (by decide))))
  · rw [if_neg (fun q => hq ((zPlc_q m).mp q)), if_pos (show ¬ yS τ1 = 0 ∨ ¬ qPlc m from .inr hq)]
    exact exR_w w rfl
theorem jif_t {t : Prop} {_ : Decidable t} {s : Int32} (ht : t) (w : pW σ τ σ τ1) (hs1 : ¬ s = 0) (hn : σ.1 7 9 = σ.1 7 5 + 1) (hp : 0 ≤ (σ.1 7 5).toInt ∧ (σ.1 7 5).toInt ≤ 199) (hm : pA σ = m) : exR (cJif σ t) σ τ (yJm τ1 m s) := by
  unfold cJif
  rw [if_pos ht]
  exact jm_ok w hs1 hn hp hm
theorem jif_f {t : Prop} {_ : Decidable t} (ht : ¬ t) (w : pW σ τ σ τ1) : exR (cJif σ t) σ τ τ1 := by
  unfold cJif
  rw [if_neg ht]
  exact exR_ok rfl w
theorem jtg {x : Option zS} {υ : zS} (hx : exR x σ τ υ) (hf : f = 2 ∨ f = 3) : exR (x.map (fun τ => zI τ 7 3 0)) σ τ (if (f = 2 ∨ f = 3) ∧ yS υ = 0 then zI υ 25 3 0 else υ) := by
  rcases hx with ⟨a, b, c, d⟩ | ⟨σ2, a, w⟩
  · rw [if_neg (fun z => b z.2), a]
    exact .inl ⟨rfl, b, c, d⟩
  · rw [if_pos ⟨hf, w.2.2.2.2.2⟩, a]
    exact exR_ok rfl (pW_tg w (.inl rfl))
theorem jump_ok (h : pR9 σ τ) (hs : yS τ = 0) (hf : pF σ = f) (hm : pA σ = m) (f0 : ¬ f < 0) (hn : σ.1 7 9 = σ.1 7 5 + 1) (hp : 0 ≤ (σ.1 7 5).toInt ∧ (σ.1 7 5).toInt ≤ 199) : exR (cJump σ) σ τ (yJps τ f m) := by
  have w0 := pW_S (pW_0 h hs)
  unfold cJump yJps
  rw [hf]
  by_cases f10 : f < 10
  · rw [if_neg (show ¬ (¬ yS τ = 0 ∨ ¬ f < 10) from fun z => z.elim (fun z => z hs) (fun z => z f10))]
    have hid : σ.1 7 4 = τ.1 25 5 := h.id
    have htg : σ.1 7 3 = τ.1 25 3 := h.tg
    have htb := h.tb
    -- the indicator
    have ind : 3 < f → ¬ f = 0 → ¬ f = 1 → ¬ f = 2 → ¬ f = 3 → exR (if f = 0 then cJif σ True else if f = 1 then (if zPlc (pA σ) then some (zJk σ) else none) else if f = 2 then (cJif σ (σ.1 7 3 = 1)).map (fun τ => zI τ 7 3 0) else if f = 3 then (cJif σ (σ.1 7 3 = 0)).map (fun τ => zI τ 7 3 0) else if ¬ 9 < f then @cJif σ (zHo (f - 4) (σ.1 7 4)) (Classical.propDecidable _) else none) σ τ ((fun υ => if (f = 2 ∨ f = 3) ∧ yS υ = 0 then zI υ 25 3 0 else υ) (@ite _ (qGoes τ f) (Classical.propDecidable _) (yJm (zI τ 25 4 0) m (if f = 1 then 0 else 1)) (zI τ 25 4 0))) := by
      intro a3 n0 n1 n2 n3
      have f9 : ¬ 9 < f := by
        rw [Int32.lt_iff_toInt_lt] at f10 ⊢
        rw [show (10 : Int32).toInt = 10 from rfl] at f10
        rw [show (9 : Int32).toInt = 9 from rfl]
        omega
      have eq : qGoes τ f = zHo (f - 4) (τ.1 25 5) := by
        unfold qGoes
        rw [if_pos a3]
      dsimp only
      rw [if_neg n0, if_neg n1, if_neg n2, if_neg n3, if_pos f9, if_neg (fun z => z.1.elim n2 n3), if_neg n1, hid, eq]
      by_cases t : zHo (f - 4) (τ.1 25 5)
      · rw [if_pos t]
        exact jif_t t w0 (by decide) hn hp hm
      · rw [if_neg t]
        exact jif_f t w0
    obtain ⟨j, hj, rfl⟩ := f_lt (n := 10) rfl f0 f10
    have hj' : j = 0 ∨ j = 1 ∨ j = 2 ∨ j = 3 ∨ j = 4 ∨ j = 5 ∨ j = 6 ∨ j = 7 ∨ j = 8 ∨ j = 9 := by omega
    have low : ∀ {k : Int32}, (k = 0 ∨ k = 1) → qGoes τ k := by
      intro k hk
      unfold qGoes
      rcases hk with rfl | rfl
      · rw [if_neg (by decide)]
        exact .inl (by decide)
      · rw [if_neg (by decide)]
        exact .inl (by decide)
    have tgl : ∀ {k : Int32}, (k = 2 ∨ k = 3) → (qGoes τ k ↔ (k = 2 ∧ ¬ τ.1 25 3 = 0) ∨ (k = 3 ∧ τ.1 25 3 = 0)) := by
      intro k hk
      unfold qGoes
      rcases hk with rfl | rfl
      · rw [if_neg (by decide)]
        exact ⟨fun z => z.elim (fun z => absurd z (by decide)) (fun z => z), fun z => .inr z⟩
      · rw [if_neg (by decide)]
        exact ⟨fun z => z.elim (fun z => absurd z (by decide)) (fun z => z), fun z => .inr z⟩
    rcases hj' with rfl | rfl | rfl | rfl | rfl | rfl | rfl | rfl | rfl | rfl
    · rw [if_pos (show Int32.ofNat 0 = 0 from rfl), if_pos (low (k := Int32.ofNat 0) (.inl rfl)), if_neg (show ¬ Int32.ofNat 0 = 1 by decide)]
      dsimp only
      rw [if_neg (show ¬ ((Int32.ofNat 0 = 2 ∨ Int32.ofNat 0 = 3) ∧ _) from fun z => absurd z.1 (by decide))]
      exact jif_t trivial w0 (by decide) hn hp hm
    · rw [if_neg (show ¬ Int32.ofNat 1 = 0 by decide), if_pos (show Int32.ofNat 1 = 1 from rfl), if_pos (low (k := Int32.ofNat 1) (.inr rfl)), if_pos (show Int32.ofNat 1 = 1 from rfl)]
      dsimp only
      rw [if_neg (show ¬ ((Int32.ofNat 1 = 2 ∨ Int32.ofNat 1 = 3) ∧ _) from fun z => absurd z.1 (by decide))]
      unfold yJm
      rw [hm]
      by_cases hq : qPlc m
      · rw [if_pos ((zPlc_q m).mpr hq), if_neg (show ¬ (¬ yS (zI τ 25 4 0) = 0 ∨ ¬ qPlc m) from fun q => q.elim (fun q => q rfl) (fun q => q hq)), if_pos rfl]
        unfold zJk
        rw [hm]
        exact exR_ok rfl (pW_nx (pW_S w0) m)
      · rw [if_neg (fun q => hq ((zPlc_q m).mp q)), if_pos (show ¬ yS (zI τ 25 4 0) = 0 ∨ ¬ qPlc m from .inr hq)]
        exact exR_w w0 rfl
    · rw [if_neg (show ¬ Int32.ofNat 2 = 0 by decide), if_neg (show ¬ Int32.ofNat 2 = 1 by decide), if_pos (show Int32.ofNat 2 = 2 from rfl), if_neg (show ¬ Int32.ofNat 2 = 1 by decide)]
      refine jtg ?_ (.inl rfl)
      rw [htg]
      by_cases t : τ.1 25 3 = 0
      · rw [if_neg (fun z => (((tgl (k := Int32.ofNat 2) (.inl rfl)).mp z).elim (fun z => z.2 t) (fun z => absurd z.1 (by decide))))]
        exact jif_f (by rw [t]; decide) w0
      · rw [if_pos ((tgl (k := Int32.ofNat 2) (.inl rfl)).mpr (.inl ⟨rfl, t⟩))]
        exact jif_t (htb.resolve_left t) w0 (by decide) hn hp hm
    · rw [if_neg (show ¬ Int32.ofNat 3 = 0 by decide), if_neg (show ¬ Int32.ofNat 3 = 1 by decide), if_neg (show ¬ Int32.ofNat 3 = 2 by decide), if_pos (show Int32.ofNat 3 = 3 from rfl), if_neg (show ¬ Int32.ofNat 3 = 1 by decide)]
      refine jtg ?_ (.inr rfl)
      rw [htg]
      by_cases t : τ.1 25 3 = 0
      · rw [if_pos ((tgl (k := Int32.ofNat 3) (.inr rfl)).mpr (.inr ⟨rfl, t⟩))]
        exact jif_t t w0 (by decide) hn hp hm
      · rw [if_neg (fun z => (((tgl (k := Int32.ofNat 3) (.inr rfl)).mp z).elim (fun z => absurd z.1 (by decide)) (fun z => t z.2)))]
        exact jif_f t w0
    all_goals exact ind (by decide) (by decide) (by decide) (by decide) (by decide)
  · rw [if_pos (show ¬ yS τ = 0 ∨ ¬ f < 10 from .inr f10)]
    refine exR_no h ?_
    have f9 : 9 < f := by
      rw [Int32.lt_iff_toInt_lt] at f10 ⊢
      rw [show (10 : Int32).toInt = 10 from rfl] at f10
      rw [show (9 : Int32).toInt = 9 from rfl]
      omega
    rw [if_neg (fun e => f10 (by rw [e]; decide)), if_neg (fun e => f10 (by rw [e]; decide)), if_neg (fun e => f10 (by rw [e]; decide)), if_neg (fun e => f10 (by rw [e]; decide)), if_neg (fun z => z f9)]
theorem kJr : ∀ n : Fin 64, ¬ Int32.ofNat n.val < 40 → ¬ 47 < Int32.ofNat n.val → (Int32.ofNat n.val < 48 ∧ (Int32.ofNat n.val - 40).toNatClampNeg = (r8 (Int32.ofNat n.val)).toNatClampNeg) := by decide +kernel
theorem jreg_ok (h : pR9 σ τ) (hs : yS τ = 0) (hc : pO σ = c) (hf : pF σ = f) (hm : pA σ = m) (c0 : ¬ c < 0) (c1 : ¬ 63 < c) (c40 : ¬ c < 40) (c47 : ¬ 47 < c) (hn : σ.1 7 9 = σ.1 7 5 + 1) (hp : 0 ≤ (σ.1 7 5).toInt ∧ (σ.1 7 5).toInt ≤ 199) : exR (cJreg σ) σ τ (yMvs τ c f m g) := by
  have w0 := pW_S (pW_0 h hs)
  have hR : pR σ = qR τ := h.R
  obtain ⟨n, rfl⟩ := i64 c0 c1
  obtain ⟨k1, k2⟩ := kJr n c40 c47
  unfold cJreg yMvs
  rw [hf, hc, hR, if_pos k1, k2]
  by_cases f6 : f < 6
  · rw [if_pos (fun z => lt56.mp z f6), if_neg (show ¬ (¬ yS τ = 0 ∨ ¬ f < 6) from fun z => z.elim (fun z => z hs) (fun z => z f6))]
    by_cases t : zHo f (zVal (qR τ (r8 (Int32.ofNat n.val)).toNatClampNeg))
    · rw [if_pos t]
      exact jif_t t w0 (by decide) hn hp hm
    · rw [if_neg t]
      exact jif_f t w0
  · rw [if_neg (fun z => z (lt56.mpr f6)), if_pos (show ¬ yS τ = 0 ∨ ¬ f < 6 from .inr f6)]
    exact exR_no h rfl
theorem kCh : ∀ n : Fin 64, ¬ Int32.ofNat n.val < 48 → ¬ 55 < Int32.ofNat n.val → (Int32.ofNat n.val - 48 = r8 (Int32.ofNat n.val) ∧ (r8 (Int32.ofNat n.val)).toNatClampNeg < 9) := by decide +kernel
theorem xb {x : Int32} (hx : uN x < 1073741824) : (2 * x + 0) ^^^ 1 = 2 * x + 1 ∧ (2 * x + 1) ^^^ 1 = 2 * x + 0 := by
  obtain ⟨_, a⟩ := mkw (b := 0) hx (.inl rfl)
  obtain ⟨_, b⟩ := mkw (b := 1) hx (.inr rfl)
  rw [show uN 0 = 0 from rfl] at a
  rw [show uN 1 = 1 from rfl] at b
  have e : ∀ w : Int32, uN (w ^^^ 1) = uN w ^^^ 1 := fun w => by
    unfold uN
    rw [Int32.toBitVec_xor, BitVec.toNat_xor]
    rfl
  have d : ∀ k : Nat, (k ^^^ 1) / 2 = k / 2 := fun k => by
    rw [Nat.xor_div_two]
    exact Nat.xor_zero _
  constructor
  · apply uN_inj
    rw [e, a, b]
    have h1 := d (2 * uN x + 0)
    have h2 := @Nat.xor_mod_two_eq_one (2 * uN x + 0) 1
    omega
  · apply uN_inj
    rw [e, a, b]
    have h1 := d (2 * uN x + 1)
    have h2 := @Nat.xor_mod_two_eq_one (2 * uN x + 1) 1
    omega
theorem abs_lt {m : Int32} (hb : -8190 ≤ m.toInt ∧ m.toInt ≤ 8190) : uN (if m < 0 then -m else m) < 1073741824 := by
  by_cases q : m < 0
  · rw [if_pos q]
    have e := zNeg_int (v := m) (by omega)
    have := Int32.lt_iff_toInt_lt.mp q
    rw [show (0 : Int32).toInt = 0 from rfl] at this
    have := (uN_nn (x := -m) (by omega)).2
    omega
  · rw [if_neg q]
    rw [Int32.lt_iff_toInt_lt, show (0 : Int32).toInt = 0 from rfl] at q
    have := (uN_nn (x := m) (by omega)).2
    omega
theorem chg_ok (h : pR9 σ τ) (hs : yS τ = 0) (hc : pO σ = c) (hf : pF σ = f) (hm : pA σ = m) (f0 : ¬ f < 0) (c0 : ¬ c < 0) (c1 : ¬ 63 < c) (c48 : ¬ c < 48) (c55 : ¬ 55 < c) (hb : -8190 ≤ m.toInt ∧ m.toInt ≤ 8190) (hg : g = 0 ∨ g = 1) (hW : σ.1 7 14 = 2 * (if m < 0 then -m else m) + g) : exR (cChg σ) σ τ (yMvs τ c f m g) := by
  have w0 := pW_S (pW_0 h hs)
  have hR : pR σ = qR τ := h.R
  obtain ⟨n, rfl⟩ := i64 c0 c1
  obtain ⟨k1, k2⟩ := kCh n c48 c55
  have ha := abs_lt hb
  unfold cChg yMvs
  rw [hf, hc, hm, hR, hW, if_neg c48, k1]
  by_cases f4 : f < 4
  · rw [if_neg (show ¬ (¬ yS τ = 0 ∨ ¬ f < 4) from fun z => z.elim (fun z => z hs) (fun z => z f4))]
    obtain ⟨j, hj, rfl⟩ := f_lt (n := 4) rfl f0 f4
    have hj' : j = 0 ∨ j = 1 ∨ j = 2 ∨ j = 3 := by omega
    rcases hj' with rfl | rfl | rfl | rfl
    · rw [if_pos (show Int32.ofNat 0 = 0 from rfl), if_pos (show Int32.ofNat 0 < 2 by decide), if_pos (show Int32.ofNat 0 = 0 from rfl)]
      exact exR_ok rfl (add_ok w0 k2)
    · rw [if_neg (show ¬ Int32.ofNat 1 = 0 by decide), if_pos (show Int32.ofNat 1 = 1 from rfl), if_pos (show Int32.ofNat 1 < 2 by decide), if_neg (show ¬ Int32.ofNat 1 = 0 by decide)]
      exact exR_ok rfl (add_ok w0 k2)
    · rw [if_neg (show ¬ Int32.ofNat 2 = 0 by decide), if_neg (show ¬ Int32.ofNat 2 = 1 by decide), if_pos (show Int32.ofNat 2 = 2 from rfl), if_neg (show ¬ Int32.ofNat 2 < 2 by decide), if_neg (show ¬ Int32.ofNat 2 = 3 by decide), zEn_yEn]
      have e : (if (if g = 0 then (0 : Int32) else 1) = 0 then (0 : Int32) else 1) = g := by rcases hg with rfl | rfl <;> decide
      rw [e]
      exact exR_ok rfl (pW_R w0 (en_r h.wR _ (mkw ha hg).1))
    · rw [if_neg (show ¬ Int32.ofNat 3 = 0 by decide), if_neg (show ¬ Int32.ofNat 3 = 1 by decide), if_neg (show ¬ Int32.ofNat 3 = 2 by decide), if_pos (show Int32.ofNat 3 = 3 from rfl), if_neg (show ¬ Int32.ofNat 3 < 2 by decide), if_pos (show Int32.ofNat 3 = 3 from rfl), zEn_yEn]
      have e : (2 * (if m < 0 then -m else m) + g) ^^^ 1 = 2 * (if m < 0 then -m else m) + (if (if g = 1 then (0 : Int32) else 1) = 0 then (0 : Int32) else 1) := by
        rcases hg with rfl | rfl
        · exact (xb ha).1
        · exact (xb ha).2
      rw [e]
      exact exR_ok rfl (pW_R w0 (en_r h.wR _ (mkw ha (by rcases hg with rfl | rfl <;> decide)).1))
  · rw [if_pos (show ¬ yS τ = 0 ∨ ¬ f < 4 from .inr f4)]
    refine exR_no h ?_
    rw [if_neg (fun e => f4 (by rw [e]; decide)), if_neg (fun e => f4 (by rw [e]; decide)), if_neg (fun e => f4 (by rw [e]; decide)), if_neg (fun e => f4 (by rw [e]; decide))]
end ST
