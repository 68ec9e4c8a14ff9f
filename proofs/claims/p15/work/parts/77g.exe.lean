/-! ONE INSTRUCTION on both sides: all -/
theorem kqX : ∀ n : Fin 64, (Int32.ofNat n.val = 0 ∨ Int32.ofNat n.val = 5 ∨ Int32.ofNat n.val = 6 ∨ Int32.ofNat n.val = 7 ∨ Int32.ofNat n.val = 39) ∨ (¬ 4 < Int32.ofNat n.val ∧ ¬ Int32.ofNat n.val = 0 ∧ (Int32.ofNat n.val = 1 ∨ Int32.ofNat n.val = 2 ∨ Int32.ofNat n.val = 3 ∨ Int32.ofNat n.val = 4) ∧ ¬ Int32.ofNat n.val < 1) ∨ (4 < Int32.ofNat n.val ∧ 7 < Int32.ofNat n.val ∧ ¬ 23 < Int32.ofNat n.val ∧ ¬ Int32.ofNat n.val < 8 ∧ ¬ 33 < Int32.ofNat n.val) ∨ (4 < Int32.ofNat n.val ∧ 7 < Int32.ofNat n.val ∧ 23 < Int32.ofNat n.val ∧ ¬ 33 < Int32.ofNat n.val ∧ ¬ Int32.ofNat n.val < 24 ∧ ¬ Int32.ofNat n.val < 8) ∨ ((4 < Int32.ofNat n.val ∧ 7 < Int32.ofNat n.val ∧ 23 < Int32.ofNat n.val ∧ 33 < Int32.ofNat n.val) ∧ (¬ 55 < Int32.ofNat n.val ∧ ¬ Int32.ofNat n.val = 5 ∧ ¬ Int32.ofNat n.val = 6 ∧ ¬ Int32.ofNat n.val = 7) ∧ ¬ Int32.ofNat n.val = 39) ∨ (4 < Int32.ofNat n.val ∧ 7 < Int32.ofNat n.val ∧ 23 < Int32.ofNat n.val ∧ 33 < Int32.ofNat n.val ∧ 38 < Int32.ofNat n.val ∧ 47 < Int32.ofNat n.val ∧ 55 < Int32.ofNat n.val) := by decide +kernel
theorem kqY : ∀ n : Fin 64, 33 < Int32.ofNat n.val → ¬ 55 < Int32.ofNat n.val → ¬ Int32.ofNat n.val = 39 → ((¬ 38 < Int32.ofNat n.val ∧ (Int32.ofNat n.val = 34 ∨ Int32.ofNat n.val = 38) ∧ ¬ (¬ Int32.ofNat n.val < 35 ∧ ¬ 37 < Int32.ofNat n.val)) ∨ (¬ 38 < Int32.ofNat n.val ∧ ¬ (Int32.ofNat n.val = 34 ∨ Int32.ofNat n.val = 38) ∧ (¬ Int32.ofNat n.val < 35 ∧ ¬ 37 < Int32.ofNat n.val) ∧ (Int32.ofNat n.val = 35 ∨ Int32.ofNat n.val = 36 ∨ Int32.ofNat n.val = 37)) ∨ (38 < Int32.ofNat n.val ∧ ¬ (Int32.ofNat n.val = 34 ∨ Int32.ofNat n.val = 38) ∧ 37 < Int32.ofNat n.val ∧ 39 < Int32.ofNat n.val ∧ ((¬ 47 < Int32.ofNat n.val ∧ ¬ Int32.ofNat n.val < 40) ∨ (47 < Int32.ofNat n.val ∧ ¬ Int32.ofNat n.val < 48)))) := by decide +kernel
section ST
variable {σ τ : zS} {c f m g : Int32}
abbrev cT3 (c : Int32) : Prop := (¬ c < 1 ∧ ¬ 4 < c) ∨ (¬ c < 8 ∧ ¬ 33 < c) ∨ 55 < c
theorem exe_ok (h : pR9 σ τ) (hs : yS τ = 0) (hc : pO σ = c) (hf : pF σ = f) (hm : pA σ = m) (c0 : ¬ c < 0) (c1 : ¬ 63 < c) (f0 : ¬ f < 0) (f1 : ¬ 63 < f) (hb : -8190 ≤ m.toInt ∧ m.toInt ≤ 8190) (hg : g = 0 ∨ g = 1) (hW : σ.1 7 14 = 2 * (if m < 0 then -m else m) + g) (hn : σ.1 7 9 = σ.1 7 5 + 1) (hp : 0 ≤ (σ.1 7 5).toInt ∧ (σ.1 7 5).toInt ≤ 199) (hsd : 0 ≤ (σ.1 7 7).toInt ∧ (σ.1 7 7).toInt < 2000000000) (hl : (σ.1 2 8).toInt < 2000000000) : exR (cExe σ) σ τ (yOpr τ c f m g) := by
  obtain ⟨n, hn'⟩ := i64 c0 c1
  have key := kqX n
  rw [← hn'] at key
  unfold cExe yOpr
  rw [hc]
  rcases key with k | ⟨k1, k2, k3, k4⟩ | ⟨k1, k2, k3, k4, k5⟩ | ⟨k1, k2, k3, k4, k5, k6⟩ | ⟨⟨k1, k2, k3, k4⟩, ⟨k5, k6, k7, k8⟩, a4⟩ | ⟨k1, k2, k3, k4, k5, k6, k7⟩
  · rcases k with rfl | rfl | rfl | rfl | rfl
    · rw [if_pos (show ¬ 4 < (0 : Int32) by decide), if_pos rfl, if_neg (show ¬ cT3 0 by decide), if_neg (by decide), if_neg (by decide), if_neg (by decide), if_neg (by decide), if_neg (by decide), if_neg (by decide), if_neg (by decide)]
      exact exR_ok rfl (pW_0 h hs)
    · rw [if_neg (show ¬ ¬ 4 < (5 : Int32) by decide), if_pos (show ¬ 7 < (5 : Int32) by decide), if_pos rfl, if_neg (show ¬ cT3 5 by decide), if_pos rfl]
      exact conv_ok h hs hf f0
    · rw [if_neg (show ¬ ¬ 4 < (6 : Int32) by decide), if_pos (show ¬ 7 < (6 : Int32) by decide), if_neg (show ¬ (6 : Int32) = 5 by decide), if_pos rfl, if_neg (show ¬ cT3 6 by decide), if_neg (show ¬ (6 : Int32) = 5 by decide), if_pos rfl]
      exact shift_ok h hs hf hm f0
    · rw [if_neg (show ¬ ¬ 4 < (7 : Int32) by decide), if_pos (show ¬ 7 < (7 : Int32) by decide), if_neg (show ¬ (7 : Int32) = 5 by decide), if_neg (show ¬ (7 : Int32) = 6 by decide), if_neg (show ¬ cT3 7 by decide), if_neg (show ¬ (7 : Int32) = 5 by decide), if_neg (show ¬ (7 : Int32) = 6 by decide), if_pos rfl]
      exact move_ok h hs hf hm f0 f1
    · rw [if_neg (show ¬ ¬ 4 < (39 : Int32) by decide), if_neg (show ¬ ¬ 7 < (39 : Int32) by decide), if_neg (show ¬ ¬ 23 < (39 : Int32) by decide), if_neg (show ¬ ¬ 33 < (39 : Int32) by decide), if_neg (show ¬ ¬ 38 < (39 : Int32) by decide), if_pos (show ¬ 47 < (39 : Int32) by decide), if_pos rfl, if_neg (show ¬ cT3 39 by decide), if_neg (show ¬ (39 : Int32) = 5 by decide), if_neg (show ¬ (39 : Int32) = 6 by decide), if_neg (show ¬ (39 : Int32) = 7 by decide), if_neg (show ¬ ((39 : Int32) = 34 ∨ (39 : Int32) = 38) by decide), if_neg (show ¬ (¬ (39 : Int32) < 35 ∧ ¬ 37 < (39 : Int32)) by decide), if_pos rfl]
      exact jump_ok h hs hf hm f0 hn hp
  · rw [if_pos k1, if_neg k2, if_pos (show cT3 c from .inl ⟨k4, k1⟩)]
    exact calc_ok h hs hc hf hm f0 f1 k3
  · rw [if_neg (fun z => z k1), if_neg (fun z => z k2), if_pos k3, if_pos (show cT3 c from .inr (.inl ⟨k4, k5⟩))]
    exact load_ok h hs hc hf hm f0 f1 c0 c1 k4 k3
  · rw [if_neg (fun z => z k1), if_neg (fun z => z k2), if_neg (fun z => z k3), if_pos k4, if_pos (show cT3 c from .inr (.inl ⟨k6, k4⟩))]
    exact stor_ok h hs hc hf hm f0 f1 c0 c1 k5 k4
  · have no : ¬ cT3 c := fun z => z.elim (fun z => z.2 k1) (fun z => z.elim (fun z => z.2 k4) k5)
    rw [if_neg (fun z => z k1), if_neg (fun z => z k2), if_neg (fun z => z k3), if_neg (fun z => z k4), if_neg no, if_neg k6, if_neg k7, if_neg k8]
    have k := kqY n
    rw [← hn'] at k
    rcases k k4 k5 a4 with ⟨a1, a2, a3⟩ | ⟨a1, a2, a3, a5⟩ | ⟨a1, a2, a3, a5, a6⟩
    · rw [if_pos a1, if_pos a2]
      unfold cUnit
      rw [hf, if_neg (by rw [hc]; exact a3)]
      exact jb_ok h hs hc hm hn hp hsd
    · rw [if_pos a1, if_neg a2, if_pos a3]
      unfold cUnit
      rw [hf, hm, if_pos (by rw [hc]; exact a3), hc]
      exact unit_ok h hs hm hl a5
    · rw [if_neg (show ¬ ¬ 38 < c from fun z => z a1), if_neg a2, if_neg (show ¬ (¬ c < 35 ∧ ¬ 37 < c) from fun z => z.2 a3)]
      rcases a6 with ⟨b1, b2⟩ | ⟨b1, b2⟩
      · rw [if_pos b1, if_neg a4, if_neg a4, if_pos a5]
        exact jreg_ok h hs hc hf hm c0 c1 b2 b1 hn hp
      · rw [if_neg (show ¬ ¬ 47 < c from fun z => z b1), if_pos k5, if_neg a4, if_pos a5]
        exact chg_ok h hs hc hf hm f0 c0 c1 b2 k5 hb hg hW
  · rw [if_neg (fun z => z k1), if_neg (fun z => z k2), if_neg (fun z => z k3), if_neg (fun z => z k4), if_neg (fun z => z k5), if_neg (fun z => z k6), if_neg (fun z => z k7), if_pos (show cT3 c from .inr (.inr k7))]
    exact cmp_ok h hs hc hf hm f0 f1 c0 c1 k7
end ST
