theorem xops : ∀ k, k < 32 → k ≠ 12 → ∃ Bs, xallB 6 Bs = true ∧ (k, 6, xfl) ∈ Bs
  | 0, _, _ => ⟨_, xrG0, List.mem_of_getElem? (i := 0) rfl⟩
  | 1, _, _ => ⟨_, xrG0, List.mem_of_getElem? (i := 1) rfl⟩
  | 2, _, _ => ⟨_, xrG0, List.mem_of_getElem? (i := 2) rfl⟩
  | 3, _, _ => ⟨_, xrG0, List.mem_of_getElem? (i := 3) rfl⟩
  | 4, _, _ => ⟨_, xrG0, List.mem_of_getElem? (i := 4) rfl⟩
  | 5, _, _ => ⟨_, xrG0, List.mem_of_getElem? (i := 5) rfl⟩
  | 6, _, _ => ⟨_, xrG0, List.mem_of_getElem? (i := 6) rfl⟩
  | 7, _, _ => ⟨_, xrG0, List.mem_of_getElem? (i := 7) rfl⟩
  | 8, _, _ => ⟨_, xrG0, List.mem_of_getElem? (i := 8) rfl⟩
  | 9, _, _ => ⟨_, xrG0, List.mem_of_getElem? (i := 9) rfl⟩
  | 10, _, _ => ⟨_, xrG10, List.mem_of_getElem? (i := 0) rfl⟩
  | 11, _, _ => ⟨_, xrG11, List.mem_of_getElem? (i := 0) rfl⟩
  | 12, _, h => absurd rfl h
  | 13, _, _ => ⟨_, xrG13, List.mem_of_getElem? (i := 0) rfl⟩
  | 14, _, _ => ⟨_, xrG14, List.mem_of_getElem? (i := 0) rfl⟩
  | 15, _, _ => ⟨_, xrG15, List.mem_of_getElem? (i := 0) rfl⟩
  | 16, _, _ => ⟨_, xrG15, List.mem_of_getElem? (i := 1) rfl⟩
  | 17, _, _ => ⟨_, xrG17, List.mem_of_getElem? (i := 0) rfl⟩
  | 18, _, _ => ⟨_, xrG15, List.mem_of_getElem? (i := 2) rfl⟩
  | 19, _, _ => ⟨_, xrG15, List.mem_of_getElem? (i := 3) rfl⟩
  | 20, _, _ => ⟨_, xrG15, List.mem_of_getElem? (i := 4) rfl⟩
  | 21, _, _ => ⟨_, xrG15, List.mem_of_getElem? (i := 5) rfl⟩
  | 22, _, _ => ⟨_, xrG15, List.mem_of_getElem? (i := 6) rfl⟩
  | 23, _, _ => ⟨_, xrG23, List.mem_of_getElem? (i := 0) rfl⟩
  | 24, _, _ => ⟨_, xrG24, List.mem_of_getElem? (i := 0) rfl⟩
  | 25, _, _ => ⟨_, xrG15, List.mem_of_getElem? (i := 7) rfl⟩
  | 26, _, _ => ⟨_, xrG15, List.mem_of_getElem? (i := 8) rfl⟩
  | 27, _, _ => ⟨_, xrG15, List.mem_of_getElem? (i := 9) rfl⟩
  | 28, _, _ => ⟨_, xrG15, List.mem_of_getElem? (i := 10) rfl⟩
  | 29, _, _ => ⟨_, xrG15, List.mem_of_getElem? (i := 11) rfl⟩
  | 30, _, _ => ⟨_, xrG15, List.mem_of_getElem? (i := 12) rfl⟩
  | 31, _, _ => ⟨_, xrG15, List.mem_of_getElem? (i := 13) rfl⟩
  | n + 32, h, _ => absurd h (by omega)
theorem xlens : ∀ L, L < 6 → xallB L [(32, L, [])] = true
  | 0, _ => xrL0
  | 1, _ => xrL1
  | 2, _ => xrL2
  | 3, _ => xrL3
  | 4, _ => xrL4
  | 5, _ => xrL5
  | n + 6, h => absurd h (by omega)
