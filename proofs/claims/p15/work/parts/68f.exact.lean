/-! WHAT THE CALLS OF ASSEMBLE COME TO, on heaps -/
/-- the heap without what was thrown -/
abbrev hN (h : mH) : mH := zH (h.take 158) (zOf h)
/-- the cells are those of a state -/
def shP (h : mH) : Prop := 206 ≤ h.length ∧ ∀ k, k < 48 → h[158 + k]? = some (zCell (zOf h) k)
/-- the texts of both sides -/
def xTx (h : mH) (f : Nat → Int32) (len : Int32) : Prop := h[158 + 10]? = some (some (.inl (2, 240, .inl f))) ∧ h[158 + 32]? = some (some (.inl (0, 240, .inl f))) ∧ (∃ gs : List Value, h[158 + 9]? = some (some (.inr (3, gs))) ∧ gs[(1 : Nat)]? = some (.int len)) ∧ (∃ gs : List Value, h[158 + 25]? = some (some (.inr (7, gs))) ∧ gs[(18 : Nat)]? = some (.int len))
def txt (σ : zS) (f : Nat → Int32) (len : Int32) : Prop := σ.2.2.1 10 = f ∧ σ.2.2.1 32 = f ∧ σ.1 9 1 = len ∧ σ.1 25 18 = len
section EX
variable {h : mH} {f : Nat → Int32} {len : Int32}
theorem txt_of (hx : xTx h f len) : txt (zOf h) f len := by
  obtain ⟨a, b, ⟨g1, c1, c2⟩, ⟨g2, d1, d2⟩⟩ := hx
  refine ⟨?_, ?_, ?_, ?_⟩
  · show gA h 10 = f
    unfold gA
    rw [a]
  · show gA h 32 = f
    unfold gA
    rw [b]
  · show gI h 9 1 = len
    unfold gI
    rw [c1]
    dsimp only
    rw [c2]
  · show gI h 25 18 = len
    unfold gI
    rw [d1]
    dsimp only
    rw [d2]
theorem txt_to {σ : zS} (ht : txt σ f len) (h10 : h[158 + 10]? = some (zCell σ 10)) (h32 : h[158 + 32]? = some (zCell σ 32)) (h9 : h[158 + 9]? = some (zCell σ 9)) (h25 : h[158 + 25]? = some (zCell σ 25)) : xTx h f len := by
  obtain ⟨a, b, c, d⟩ := ht
  refine ⟨?_, ?_, ⟨_, h9, ?_⟩, ⟨_, h25, ?_⟩⟩
  · rw [h10]
    show (some (some (.inl (2, 240, .inl (σ.2.2.1 10)))) : Option mC) = _
    rw [a]
  · rw [h32]
    show (some (some (.inl (0, 240, .inl (σ.2.2.1 32)))) : Option mC) = _
    rw [b]
  · show some (Value.int (σ.1 9 1)) = _
    rw [c]
  · show some (Value.int (σ.1 25 18)) = _
    rw [d]
theorem hN_get (hs : shP h) {i : Nat} (hi : i < 206) : (hN h)[i]? = h[i]? := by
  have hl : (h.take 158).length = 158 := by rw [List.length_take]; have := hs.1; omega
  by_cases k : i < 158
  · show (h.take 158 ++ _)[i]? = _
    rw [List.getElem?_append_left (by omega), take_at k]
  · obtain ⟨j, rfl⟩ : ∃ j, i = 158 + j := ⟨i - 158, by omega⟩
    rw [zH_get hl (by omega), hs.2 j (by omega)]
theorem hN_len (hs : shP h) : (hN h).length = h.length := by
  have hl : (h.take 158).length = 158 := by rw [List.length_take]; have := hs.1; omega
  have := hs.1
  have e : (zOf h).2.2.2.2.2 = List.replicate (h.length - 206) 4 := by simp only [zOf]
  unfold hN zH
  rw [e, List.length_append, List.length_append, List.length_map, List.length_map, List.length_range, List.length_replicate, hl]
  omega
theorem hN_le (hs : shP h) : mLe (hN h) h := by
  refine ⟨hN_len hs, fun i c hc => ?_⟩
  by_cases k : i < 206
  · rw [← hN_get hs k]
    exact hc
  · exfalso
    have hl : (h.take 158).length = 158 := by rw [List.length_take]; have := hs.1; omega
    have e : (hN h)[i]? = ((List.replicate (h.length - 206) 4).map zXc)[i - 206]? := by
      have e : (zOf h).2.2.2.2.2 = List.replicate (h.length - 206) 4 := by simp only [zOf]
      unfold hN zH
      rw [e, List.getElem?_append_right (by omega), hl, List.getElem?_append_right (by rw [List.length_map, List.length_range]; omega), List.length_map, List.length_range]
      rw [show i - 158 - 48 = i - 206 by omega]
    rw [e, List.getElem?_map, List.getElem?_replicate] at hc
    split at hc
    · cases hc
    · cases hc
theorem hN_rHr {c0 : mH} {ρ : List Int} {r : rH} (hs : shP h) (hh : rHr c0 ρ r h) : rHr c0 ρ r (hN h) := by
  obtain ⟨⟨x, x1, x2, x3⟩, h2, h3, h4⟩ := hh
  refine ⟨⟨x, x1, x2, by rw [hN_len hs]; exact x3⟩, fun i a ha => ?_, fun i hi hn => by rw [hN_get hs hi]; exact h3 i hi hn, h4⟩
  obtain ⟨c, c1, c2⟩ := h2 i a ha
  exact ⟨c, by rw [hN_get hs (rX_lt h4 ha)]; exact c1, c2⟩
/-- a frame keeps the texts -/
theorem txt_z {σ σ1 : zS} (ht : txt σ f len) (hz : zFr σ σ1) : txt σ1 f len := ⟨(hz.2.2.1 10 rfl).trans ht.1, (hz.2.2.1 32 rfl).trans ht.2.1, (hz.1 9 1 rfl).trans ht.2.2.1, (hz.1 25 18 rfl).trans ht.2.2.2⟩
theorem txt_y {σ σ1 : zS} (ht : txt σ f len) (hz : yFr σ σ1) : txt σ1 f len := ⟨(hz.2.2.1 10 rfl).trans ht.1, (hz.2.2.1 32 rfl).trans ht.2.1, (hz.1 9 1 rfl).trans ht.2.2.1, (hz.1 25 18 rfl).trans ht.2.2.2⟩
/-- cells of a heap that is above -/
theorem le_cell {c0 h' : mH} {σ : zS} (hl : c0.length = 158) (hm : mLe (zH c0 σ) h') {k : Nat} (hk : k < 48) {c : (Nat × vp_A) ⊕ (Nat × List Value)} (hc : zCell σ k = some c) : h'[158 + k]? = some (zCell σ k) := by
  rw [hc]
  exact hm.2 _ _ (by rw [zH_get hl hk, hc])
theorem le_cell5 {c0 h' : mH} {σ : zS} {x : mC} (hl : c0.length = 158) (hm : mLe ((zH c0 σ).set 205 x) h') {k : Nat} (hk : k < 47) {c : (Nat × vp_A) ⊕ (Nat × List Value)} (hc : zCell σ k = some c) : h'[158 + k]? = some (zCell σ k) := by
  rw [hc]
  exact hm.2 _ _ (by rw [List.getElem?_set_ne (by omega), zH_get hl (by omega), hc])
/-- the class alone -/
theorem cls_loop {c0 : mH} {v5 : Value} (h0 : zC0 c0) {d n : Nat} {r : mO × mH} : ∀ (N m : Nat), m ≤ N → ∀ (σ : zS) (i : Int32), zF v5 d n 38 m 9 [(1, .int i), (0, .ref 158)] [] (zH c0 σ) = some r → (∃ σ1, r = zOut c0 (.inr 0) σ1 ∧ zFr σ σ1) ∨ (∃ σ1 V pl W G, r = zOut c0 (.inl (some (.int (σ1.1 11 9)))) (zDone σ1 V pl W G) ∧ zFr σ σ1) := by
  intro N
  induction N with
  | zero =>
    intro m hm σ i hx
    have : m = 0 := by omega
    rw [this] at hx
    cases hx
  | succ N ih =>
    intro m hm σ i hx
    rcases z38_t h0 hx with ⟨_, m', x2⟩ | ⟨_, _, o1, σ1, x3, x4⟩
    · rcases z38_e h0 x2 with ⟨_, σ', x3, x4⟩ | ⟨V, pl, W, G, _, x4⟩
      · exact .inl ⟨σ', x4, x3⟩
      · exact .inr ⟨σ, V, pl, W, G, x4, zFr_refl σ⟩
    · have hf := zLn_fr x3
      rcases x4 with ⟨_, x5⟩ | ⟨_, m4, x5, x6⟩
      · exact .inl ⟨σ1, x5, hf⟩
      · rcases ih m4 (by omega) σ1 _ x6 with ⟨σ2, y1, y2⟩ | ⟨σ2, V, pl, W, G, y1, y2⟩
        · exact .inl ⟨σ2, y1, zFr_trans hf y2⟩
        · exact .inr ⟨σ2, V, pl, W, G, y1, zFr_trans hf y2⟩
theorem cls_fr {c0 : mH} {v5 : Value} (h0 : zC0 c0) {d n : Nat} {r : mO × mH} {σ : zS} (hx : zEv v5 d n 38 [.ref 158] (zH c0 σ) = some r) : (∃ σ1, r = zOut c0 (.inr 0) σ1 ∧ zFr (zBeg σ) σ1) ∨ (∃ σ1 V pl W G, r = zOut c0 (.inl (some (.int (σ1.1 11 9)))) (zDone σ1 V pl W G) ∧ zFr (zBeg σ) σ1) := by
  obtain ⟨d1, m1, hx1⟩ := z38_b h0 hx
  exact cls_loop h0 m1 m1 (Nat.le_refl _) _ _ hx1
/-- both sides' assemble: h7 behind the class's, h8 behind the reference's -/
theorem asm_ex {v5 : Value} {d n d' n' : Nat} {h7 h8 g7 g8 : mH} {o7 o8 : mO} (hz : zC0 (h.take 158)) (hx : xTx h f len) (hl : 0 ≤ len.toInt ∧ len.toInt ≤ 240) (hch : chR f len) (e7 : zEv v5 d n 7 [.ref 158, .ref 205] (hN h) = some (o7, g7)) (m7 : mLe g7 h7) (ho : h7.take 158 = h.take 158) (e8 : zEv v5 d' n' 8 [.ref 183] (hN h7) = some (o8, g8)) (m8 : mLe g8 h8) : xTx h7 f len ∧ xTx h8 f len ∧ ((o7 = .inl (some (.int 1)) ∧ o8 = .inl (some (.int 0)) ∧ ∃ gs : List Value, h8[158 + 25]? = some (some (.inr (7, gs))) ∧ gs[(0 : Nat)]? = some (.int 1)) ∨ ∃ s, o7 = .inl (some (.int 0)) ∧ o8 = .inl (some (.int s)) ∧ (∃ gs : List Value, h8[158 + 25]? = some (some (.inr (7, gs))) ∧ gs[(0 : Nat)]? = some (.int 0)) ∧ ∃ q : Nat → Int64, h8[158 + 47]? = some (some (.inl (1, 1, .inr (.inl q)))) ∧ q 0 = s.toInt64) := by
  have hlen := hz.1
  have h158 : (hN h)[158]? = some (some (.inr (0, [.ref 159, .ref 160, .ref 165, .ref 167, .ref 169]))) := zH_get (k := 0) hlen (by decide)
  obtain ⟨d1, n1, r38, a1, a2, a3⟩ := inv7 h158 e7
  rw [show hN h7 = zH (h.take 158) (zOf h7) by show zH (h7.take 158) (zOf h7) = _; rw [ho]] at e8
  have t0 := txt_of hx
  have base : ∀ {σ1 : zS}, zFr (zBeg (zOf h)) σ1 → txt σ1 f len := fun hz => txt_z (σ := zBeg (zOf h)) t0 hz
  -- the texts behind the class's run
  have x7 : xTx h7 f len := by
    rcases cls_fr hz a1 with ⟨σ1, b1, b2⟩ | ⟨σ1, V, pl, W, G, b1, b2⟩
    · have e := a3 _ _ b1
      cases e
      exact txt_to (base b2) (le_cell hlen m7 (by decide) rfl) (le_cell hlen m7 (by decide) rfl) (le_cell hlen m7 (by decide) rfl) (le_cell hlen m7 (by decide) rfl)
    · have e := a2 _ _ ((zDone σ1 V pl W G).2.2.2.1 47) b1 (zH_get (k := 47) hlen (by decide))
      cases e
      have t1' := base b2
      have t1 : txt (zDone σ1 V pl W G) f len := ⟨t1'.1, t1'.2.1, t1'.2.2.1, t1'.2.2.2⟩
      exact txt_to t1 (le_cell5 hlen m7 (by decide) rfl) (le_cell5 hlen m7 (by decide) rfl) (le_cell5 hlen m7 (by decide) rfl) (le_cell5 hlen m7 (by decide) rfl)
  have t7 := txt_of x7
  have has := asm_ok hz (σ := zOf h) (τ := zOf h7) ((show xT (zOf h) = f from t0.1).trans (show yT (zOf h7) = f from t7.2.1).symm) (t0.2.2.1.trans t7.2.2.2.symm) (by rw [t7.2.2.2]; exact hl) (by rw [t7.2.2.2, show yT (zOf h7) = f from t7.2.1]; exact hch) a1 e8
  have base8 : ∀ {τ1 : zS}, yFr (yFs (zI (zOf h7) 25 0 0)) τ1 → txt τ1 f len := fun hz => txt_y (σ := yFs (zI (zOf h7) 25 0 0)) t7 hz
  refine ⟨x7, ?_⟩
  rcases has with ⟨σ1, τ1, k, b1, b2, b3, b4⟩ | ⟨σ1, τ1, V, pl, W, G, fi, b1, b2, b3, b4, b5, b6, b7⟩
  · have e := a3 _ _ b1
    cases e
    cases b2
    have t8' := base8 b4
    have t8 : txt (zI (zI τ1 25 20 k) 25 0 1) f len := ⟨t8'.1, t8'.2.1, t8'.2.2.1, t8'.2.2.2⟩
    have c25 := le_cell (k := 25) hlen m8 (by decide) rfl
    exact ⟨txt_to t8 (le_cell hlen m8 (by decide) rfl) (le_cell hlen m8 (by decide) rfl) (le_cell hlen m8 (by decide) rfl) c25, .inl ⟨rfl, rfl, _, c25, rfl⟩⟩
  · have e := a2 _ _ ((zDone σ1 V pl W G).2.2.2.1 47) b1 (zH_get (k := 47) hlen (by decide))
    cases e
    cases b2
    have t8' := base8 b7
    have t8 : txt (yDone τ1) f len := ⟨t8'.1, t8'.2.1, t8'.2.2.1, t8'.2.2.2⟩
    have c25 := le_cell (k := 25) hlen m8 (by decide) rfl
    have c47 := le_cell (k := 47) hlen m8 (by decide) rfl
    refine ⟨txt_to t8 (le_cell hlen m8 (by decide) rfl) (le_cell hlen m8 (by decide) rfl) (le_cell hlen m8 (by decide) rfl) c25, .inr ⟨τ1.1 25 25, rfl, rfl, ⟨_, c25, ?_⟩, _, c47, ?_⟩⟩
    · show some (Value.int (τ1.1 25 0)) = _
      rw [b7.1 25 0 rfl]
      rfl
    · show τ1.2.2.2.1 47 0 = _
      rw [b7.2.2.2 47 rfl]
      show gB h7 47 0 = _
      have c : h7[158 + 47]? = some (some (.inl (1, 1, .inr (.inl (vp_updL ((zDone σ1 V pl W G).2.2.2.1 47) 0 (σ1.1 11 9).toInt64))))) := m7.2 _ _ (by
        rw [List.getElem?_set_self]
        have := zH_get (σ := zDone σ1 V pl W G) (k := 47) hlen (by decide)
        exact (List.getElem?_eq_some_iff.mp this).1)
      unfold gB
      rw [c]
      dsimp only
      rw [vp_updL_eq, if_pos rfl, b3]
end EX
