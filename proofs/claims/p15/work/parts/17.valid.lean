/-! THE TABLES HOLD -/
def nTb : List Cond := Jvm.Cond.code x code maxLocals ret :: lw_tbl
/-- the tables in pieces: a word by its place -/
def nCk : Nat → List Cond := fun k => match k with
  | 1 => tables_1_1
  | 2 => tables_1_2
  | 3 => tables_1_3
  | 4 => tables_1_4
  | 5 => tables_1_5
  | 6 => tables_1_6
  | 7 => tables_1_7
  | 8 => tables_1_8
  | 9 => [Jvm.Cond.code x code maxLocals ret]
  | 11 => k2_sels lw_privs_1
  | 12 => k2_sels lw_privs_2
  | 13 => k2_sels lw_privs_3
  | 14 => k2_sels lw_privs_4
  | 15 => k2_sels lw_privs_5
  | 16 => k2_sels lw_privs_6
  | 17 => k2_sels lw_privs_7
  | _ => []
theorem nCk_sub (k : Nat) {w : Cond} (h : w ∈ nCk k) : w ∈ nTb := by
  unfold nCk at h
  split at h
  · simp only [nTb, lw_tbl, tables_1, List.mem_cons, List.mem_append, h, true_or, or_true]
  · simp only [nTb, lw_tbl, tables_1, List.mem_cons, List.mem_append, h, true_or, or_true]
  · simp only [nTb, lw_tbl, tables_1, List.mem_cons, List.mem_append, h, true_or, or_true]
  · simp only [nTb, lw_tbl, tables_1, List.mem_cons, List.mem_append, h, true_or, or_true]
  · simp only [nTb, lw_tbl, tables_1, List.mem_cons, List.mem_append, h, true_or, or_true]
  · simp only [nTb, lw_tbl, tables_1, List.mem_cons, List.mem_append, h, true_or, or_true]
  · simp only [nTb, lw_tbl, tables_1, List.mem_cons, List.mem_append, h, true_or, or_true]
  · simp only [nTb, lw_tbl, tables_1, List.mem_cons, List.mem_append, h, true_or, or_true]
  · rw [List.mem_singleton] at h
    rw [h]
    exact List.mem_cons_self
  · unfold k2_sels at h
    simp only [nTb, lw_tbl, lw_privs, k2_sels, List.map_append, List.mem_cons, List.mem_append, h, true_or, or_true]
  · unfold k2_sels at h
    simp only [nTb, lw_tbl, lw_privs, k2_sels, List.map_append, List.mem_cons, List.mem_append, h, true_or, or_true]
  · unfold k2_sels at h
    simp only [nTb, lw_tbl, lw_privs, k2_sels, List.map_append, List.mem_cons, List.mem_append, h, true_or, or_true]
  · unfold k2_sels at h
    simp only [nTb, lw_tbl, lw_privs, k2_sels, List.map_append, List.mem_cons, List.mem_append, h, true_or, or_true]
  · unfold k2_sels at h
    simp only [nTb, lw_tbl, lw_privs, k2_sels, List.map_append, List.mem_cons, List.mem_append, h, true_or, or_true]
  · unfold k2_sels at h
    simp only [nTb, lw_tbl, lw_privs, k2_sels, List.map_append, List.mem_cons, List.mem_append, h, true_or, or_true]
  · unfold k2_sels at h
    simp only [nTb, lw_tbl, lw_privs, k2_sels, List.map_append, List.mem_cons, List.mem_append, h, true_or, or_true]
  · cases h
def nS (hs : List (Nat × Nat)) (w : Cond) : Bool := mGw w && hs.any (fun q => match (nCk q.1)[q.2]? with
  | some v => kPre v w && decide (v = w)
  | none => false)
theorem nS_ok (hs : List (Nat × Nat)) : ∀ w, nS hs w = true → w ∈ mTs' nTb := by
  intro w h
  unfold nS at h
  rw [Bool.and_eq_true] at h
  obtain ⟨q, -, h2⟩ := List.any_eq_true.mp h.2
  split at h2
  · rename_i v hv
    rw [Bool.and_eq_true, decide_eq_true_eq] at h2
    rw [← h2.2]
    exact List.mem_filter.mpr ⟨nCk_sub q.1 (List.mem_of_getElem? hv), by rw [h2.2]; exact h.1⟩
  · cases h2
