/-! A-PARTS: readAPart -/
section AP
variable {c0 : mH} {v5 : Value}
theorem z126_e (h0 : zC0 c0) {d n m : Nat} {r : mO × mH} {σ : zS} {q : Int32} {nm : Int64} {ln cp nu : Int32} (hx : zF v5 d n 126 m 73 [(1, .int (xAt σ)), (0, .ref 169)] [] (zH c0 (zTs (zI σ 11 17 (-1)) q nm ln cp nu)) = some r) : ∃ o σ', zApE σ o σ' ∧ r = zOut c0 o σ' := by
  replace hx := zTr (C := nC126) (tb := [(189, sp189), (86, sp86)]) h0 rfl rfl ⟨z189 h0, z86 h0, trivial⟩ (fun _ => false) 40 hx
  have e1 : ∀ q' nm' ln' cp' nu', zTs (zI (zTs (zI σ 11 17 (-1)) q nm ln cp nu) 9 2 (xAt σ)) q' nm' ln' cp' nu' = zTs (zI σ 11 17 (-1)) q' nm' ln' cp' nu' := by
    intro q' nm' ln' cp' nu'
    rw [zTs_2 (zTs (zI σ 11 17 (-1)) q nm ln cp nu), zTs_zTs, zTs_zTs]
  obtain ⟨_, _, ⟨ha, rfl, q', nm', ln', cp', nu', rfl⟩ | ⟨x, q', ha, rfl, nm', ln', cp', nu', rfl⟩, hx⟩ := hx
  · exact ⟨_, _, Or.inl ⟨ha, rfl, zFr_X (zFr_T (zFr_I (zFr_T (zFr_I (zFr_refl _) rfl)) rfl))⟩, hx⟩
  · rcases hx with ⟨h1, hx⟩ | ⟨h1, ⟨h2, hx⟩ | ⟨h2, hx⟩⟩
    · exact ⟨_, _, Or.inr ⟨x, q', ha, Or.inl ⟨fun h => absurd (lLeT h1) (Int.not_le.mpr h.1), rfl, zFr_X (zFr_T (zFr_I (zFr_T (zFr_I (zFr_refl _) rfl)) rfl))⟩⟩, hx⟩
    · obtain ⟨_, _, ⟨rfl, rfl⟩, hx⟩ := hx
      refine ⟨_, _, Or.inr ⟨x, q', ha, Or.inr ⟨⟨Int.not_le.mp (lLeF h1), lLtT h2⟩, nm', ln', cp', nu', rfl, ?_⟩⟩, hx⟩
      rw [e1]
    · exact ⟨_, _, Or.inr ⟨x, q', ha, Or.inl ⟨fun h => lLtF h2 h.2, rfl, zFr_X (zFr_T (zFr_I (zFr_T (zFr_I (zFr_refl _) rfl)) rfl))⟩⟩, hx⟩
theorem z126 (h0 : zC0 c0) : zSp c0 v5 126 sp126 := by
  intro d n as σ cs r hs hx
  unfold sp126 at hs
  split at hs
  · cases hs
    obtain ⟨d', hx⟩ := zGo hx
    replace hx := zTr (C := nC126) (tb := [(186, sp186), (127, sp127), (134, sp134), (187, sp187), (120, sp120), (188, sp188)]) h0 rfl rfl ⟨z186 h0, z127 h0, z134 h0, z187 h0, z120 h0, z188 h0, trivial⟩ (fun pc => pc.beq 73) 60 hx
    obtain ⟨_, _, ⟨h1, rfl, rfl⟩ | ⟨h1, h2, h3, rfl, rfl⟩, hx⟩ := hx
    · rcases hx with ⟨h, -⟩ | ⟨-, hx⟩
      · exact absurd (cEqT h) (by decide)
      · exact ⟨_, _, Or.inl ⟨h1, rfl, rfl⟩, hx⟩
    · rcases hx with ⟨-, hx⟩ | ⟨h, -⟩
      · obtain ⟨_, _, ⟨h4, rfl, rfl⟩ | ⟨h4, rfl, rfl⟩, hx⟩ := hx
        · rcases hx with ⟨-, hx⟩ | ⟨h, -⟩
          · obtain ⟨_, _, ⟨k, a1, a2, a3, rfl, rfl⟩, hx⟩ := hx
            have a1 : xAt σ + Int32.ofNat k = xQ σ := a1
            have hk : xN σ = k := by
              show ((xQ σ).toInt - (xAt σ).toInt).toNat = k
              rw [← a1, show (xAt σ + Int32.ofNat k).toInt = (xAt σ).toInt + k from a2]
              omega
            subst hk
            suffices hs : ∃ o σ', zApN σ o σ' ∧ r = zOut c0 o σ' by
              obtain ⟨o, σ', g1, g2⟩ := hs
              exact ⟨o, σ', Or.inr ⟨⟨h1, h2, h3⟩, Or.inr ⟨h4, g1⟩⟩, g2⟩
            have eN : zNs (zI σ 11 17 (-1)) (xAt σ) (xN σ) = zTs (zI σ 11 17 (-1)) (xQ σ) (xNp σ) (Int32.ofNat (xN σ)) (zCp (xT σ) (xAt σ) (xN σ)) (zNu (xT σ) (xAt σ) (xN σ)) := by
              rw [← a1]
              rfl
            have hx := hx
            obtain ⟨_, _, ⟨h5, rfl, rfl⟩ | ⟨h5, h6, h7, rfl, rfl⟩, hx⟩ := hx
            · have al : xAlo σ := by
                intro hq
                have h5' : xAt σ + Int32.ofNat (xN σ) < xPe σ → (xAt σ + Int32.ofNat (xN σ) < xPe σ ∧ xT σ (xAt σ + Int32.ofNat (xN σ)).toNatClampNeg = 44) ∨ (xAt σ + Int32.ofNat (xN σ) < xPe σ ∧ xT σ (xAt σ + Int32.ofNat (xN σ)).toNatClampNeg = 40) := h5
                rw [a1] at h5'
                exact (h5' hq).imp And.right And.right
              rcases hx with ⟨h, -⟩ | ⟨-, hx⟩
              · exact absurd (cEqT h) (by decide)
              · obtain ⟨_, _, ⟨h6, ⟨h7, rfl, rfl⟩ | ⟨h7, rfl, rfl⟩⟩ | ⟨h6, h7, h8, ⟨h9, rfl, h10⟩ | ⟨h9, h10, rfl, rfl⟩ | ⟨h9, h10, h11, h12, rfl, rfl⟩⟩ | ⟨h6, h7, ⟨h8, rfl, rfl⟩ | ⟨h8, rfl, rfl⟩⟩, hx⟩ := hx
                · rcases hx with ⟨-, m', hm, hx⟩ | ⟨h, -⟩
                  · have hx : zF v5 d' n 126 m' 73 [(1, .int (xAt σ)), (0, .ref 169)] [] (zH c0 (zI (zNs (zI σ 11 17 (-1)) (xAt σ) (xN σ)) 11 17 (100 + zD0 (xNp σ)))) = some r := hx
                    rw [show 100 + zD0 (xNp σ) = -1 from h7, show zI (zNs (zI σ 11 17 (-1)) (xAt σ) (xN σ)) 11 17 (-1) = zNs (zI σ 11 17 (-1)) (xAt σ) (xN σ) from zI_self 11 17, eN] at hx
                    obtain ⟨o, σ', g1, g2⟩ := z126_e h0 hx
                    exact ⟨o, σ', Or.inr (Or.inr ⟨fun h => h.2.elim (fun h => h.2 h7) (fun h => absurd (h.1.symm.trans (show xKn σ = 5 from h6)) (by decide)), g1⟩), g2⟩
                  · exact absurd rfl (cEqF h)
                · rcases hx with ⟨h, -⟩ | ⟨-, hx⟩
                  · exact absurd (cEqT h) (by decide)
                  · refine ⟨_, _, Or.inl ⟨al, h6, h7, xNp σ, Int32.ofNat (xN σ), zCp (xT σ) (xAt σ) (xN σ), zNu (xT σ) (xAt σ) (xN σ), rfl, ?_⟩, hx⟩
                    show _ = zI (zNs (zI σ 11 17 (-1)) (xAt σ) (xN σ)) 11 17 (100 + zD0 (xNp σ))
                    rw [eN]
                · exact ⟨_, _, Or.inr (Or.inl ⟨al, h7, h8, Or.inl ⟨h9, rfl, zFr_trans (zFr_T (zFr_I (zFr_refl _) rfl)) h10⟩⟩), hx⟩
                · rcases hx with ⟨h, -⟩ | ⟨-, hx⟩
                  · exact absurd (cEqT h) (by decide)
                  · refine ⟨_, _, Or.inr (Or.inl ⟨al, h7, h8, Or.inr ⟨xNp σ, Int32.ofNat (xN σ), zCp (xT σ) (xAt σ) (xN σ), zNu (xT σ) (xAt σ) (xN σ), Or.inl ⟨h9, h10, rfl, ?_⟩⟩⟩), hx⟩
                    show zI (zTs (zI σ 11 17 (-1)) (xQ σ) (xNp σ) (Int32.ofNat (xN σ)) (zCp (xT σ) (xAt σ) (xN σ)) (zNu (xT σ) (xAt σ) (xN σ))) 11 17 (xIx σ (xNp σ)) = zI (zNs (zI σ 11 17 (-1)) (xAt σ) (xN σ)) 11 17 (xIx σ (xNp σ))
                    rw [eN]
                · rcases hx with ⟨h, -⟩ | ⟨-, hx⟩
                  · exact absurd (cEqT h) (by decide)
                  · refine ⟨_, _, Or.inr (Or.inl ⟨al, h7, h8, Or.inr ⟨xNp σ, Int32.ofNat (xN σ), zCp (xT σ) (xAt σ) (xN σ), zNu (xT σ) (xAt σ) (xN σ), Or.inr ⟨h9, h10, h11, h12, rfl, ?_⟩⟩⟩), hx⟩
                    show zI (zNew (zTs (zI σ 11 17 (-1)) (xQ σ) (xNp σ) (Int32.ofNat (xN σ)) (zCp (xT σ) (xAt σ) (xN σ)) (zNu (xT σ) (xAt σ) (xN σ))) (xNp σ)) 11 17 (xCn σ) = zI (zNew (zNs (zI σ 11 17 (-1)) (xAt σ) (xN σ)) (xNp σ)) 11 17 (xCn σ)
                    rw [eN]
                · rcases hx with ⟨-, m', hm, hx⟩ | ⟨h, -⟩
                  · have hx : zF v5 d' n 126 m' 73 [(1, .int (xAt σ)), (0, .ref 169)] [] (zH c0 (zNs (zI σ 11 17 (-1)) (xAt σ) (xN σ))) = some r := hx
                    rw [eN] at hx
                    obtain ⟨o, σ', g1, g2⟩ := z126_e h0 hx
                    exact ⟨o, σ', Or.inr (Or.inr ⟨fun h => h.2.elim (fun h => h6 h.1) (fun h => h7 h), g1⟩), g2⟩
                  · exact absurd rfl (cEqF h)
                · exact absurd rfl h8
            · have al : ¬ xAlo σ := by
                intro h
                have h5' : xAt σ + Int32.ofNat (xN σ) < xPe σ := h5
                have h6' : ¬ (xAt σ + Int32.ofNat (xN σ) < xPe σ ∧ xT σ (xAt σ + Int32.ofNat (xN σ)).toNatClampNeg = 44) := h6
                have h7' : ¬ (xAt σ + Int32.ofNat (xN σ) < xPe σ ∧ xT σ (xAt σ + Int32.ofNat (xN σ)).toNatClampNeg = 40) := h7
                rw [a1] at h5' h6' h7'
                exact (h h5').elim (fun h => h6' ⟨h5', h⟩) (fun h => h7' ⟨h5', h⟩)
              rcases hx with ⟨-, m', hm, hx⟩ | ⟨h, -⟩
              · have hx : zF v5 d' n 126 m' 73 [(1, .int (xAt σ)), (0, .ref 169)] [] (zH c0 (zNs (zI σ 11 17 (-1)) (xAt σ) (xN σ))) = some r := hx
                rw [eN] at hx
                obtain ⟨o, σ', g1, g2⟩ := z126_e h0 hx
                exact ⟨o, σ', Or.inr (Or.inr ⟨fun h => al h.1, g1⟩), g2⟩
              · exact absurd rfl (cEqF h)
          · exact absurd rfl (cEqF h)
        · rcases hx with ⟨h, -⟩ | ⟨-, hx⟩
          · exact absurd (cEqT h) (by decide)
          · suffices hs : ∃ o σ', zApL σ o σ' ∧ r = zOut c0 o σ' by
              obtain ⟨o, σ', g1, g2⟩ := hs
              exact ⟨o, σ', Or.inr ⟨⟨h1, h2, h3⟩, Or.inl ⟨h4, g1⟩⟩, g2⟩
            obtain ⟨_, _, ⟨ha, rfl, q', nm', ln', cp', nu', rfl⟩ | ⟨x, q', ha, rfl, nm', ln', cp', nu', rfl⟩, hx⟩ := hx
            · exact ⟨_, _, Or.inl ⟨ha, rfl, zFr_X (zFr_T (zFr_I (zFr_I (zFr_refl _) rfl) rfl))⟩, hx⟩
            · obtain ⟨_, _, ⟨h5, rfl, h6⟩ | ⟨h5, rfl, rfl⟩, hx⟩ := hx
              · exact ⟨_, _, Or.inr ⟨x, q', ha, Or.inl ⟨h5, rfl, zFr_trans (zFr_T (zFr_I (zFr_I (zFr_refl _) rfl) rfl)) h6⟩⟩, hx⟩
              · refine ⟨_, _, Or.inr ⟨x, q', ha, Or.inr ⟨⟨h5.1, h5.2.1, h5.2.2⟩, nm', ln', cp', nu', rfl, ?_⟩⟩, hx⟩
                show zLit (zTs (zI σ 11 17 (-1)) (q' + 1) nm' ln' cp' nu') x = zLit (zI (zTs (zI (zI σ 11 17 (-1)) 9 2 (xAt σ + 1)) q' nm' ln' cp' nu') 9 2 (q' + 1)) x
                rw [zTs_2 (zI σ 11 17 (-1)), zTs_zTs, zTs_2 (zTs (zI σ 11 17 (-1)) q' nm' ln' cp' nu'), zTs_zTs]
                rfl
      · exact absurd rfl (cEqF h)
  · cases hs
end AP
