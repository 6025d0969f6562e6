/-! ===== the law's own methods, among the words ===== -/
set_option maxRecDepth 100000 in
theorem msL_cell : Cond.static YL_cell.1 ∈ am_GW ∧ Cond.initialized RL ∈ am_GW ∧ Cond.code YL_cell.1 YL_cell.2.1 YL_cell.2.2.1 YL_cell.2.2.2 ∈ am_GW := ⟨am_GW_of 271 (by decide +kernel) (by decide +kernel), am_GW_of 11 (by decide +kernel) (by decide +kernel), am_GW_of 272 rfl (by decide +kernel)⟩
set_option maxRecDepth 100000 in
theorem msL_families : Cond.static YL_families.1 ∈ am_GW ∧ Cond.initialized RL ∈ am_GW ∧ Cond.code YL_families.1 YL_families.2.1 YL_families.2.2.1 YL_families.2.2.2 ∈ am_GW := ⟨am_GW_of 276 (by decide +kernel) (by decide +kernel), am_GW_of 11 (by decide +kernel) (by decide +kernel), am_GW_of 277 rfl (by decide +kernel)⟩
set_option maxRecDepth 100000 in
theorem msL_words : Cond.static YL_words.1 ∈ am_GW ∧ Cond.initialized RL ∈ am_GW ∧ Cond.code YL_words.1 YL_words.2.1 YL_words.2.2.1 YL_words.2.2.2 ∈ am_GW := ⟨am_GW_of 342 (by decide +kernel) (by decide +kernel), am_GW_of 11 (by decide +kernel) (by decide +kernel), am_GW_of 343 rfl (by decide +kernel)⟩
set_option maxRecDepth 100000 in
theorem msL_acts : Cond.static YL_acts.1 ∈ am_GW ∧ Cond.initialized RL ∈ am_GW ∧ Cond.code YL_acts.1 YL_acts.2.1 YL_acts.2.2.1 YL_acts.2.2.2 ∈ am_GW := ⟨am_GW_of 345 (by decide +kernel) (by decide +kernel), am_GW_of 11 (by decide +kernel) (by decide +kernel), am_GW_of 346 rfl (by decide +kernel)⟩
