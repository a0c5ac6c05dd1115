theorem zpt_of {is : List Nat} {ws ws' : va_W} (h : is.map (fun i => ws'[i]?) = is.map (fun i => ws[i]?)) : ∀ j, j ∈ is → ws'[j]? = ws[j]? := by
  induction is with
  | nil => intro j hj; cases hj
  | cons i is ih =>
    intro j hj
    have h1 : ws'[i]? = ws[i]? ∧ is.map (fun i => ws'[i]?) = is.map (fun i => ws[i]?) := by
      rw [List.map_cons, List.map_cons] at h
      exact ⟨(List.cons.inj h).1, (List.cons.inj h).2⟩
    rcases List.mem_cons.mp hj with rfl | hj
    · exact h1.1
    · exact ih h1.2 j hj
theorem zrep_of {is isR : List Nat} {ws ws' w1 : va_W} (n : Nat) (h1 : is.map (fun i => ws'[i]?) = w1.map some) (L : List (Option (Nat × va_E))) (h3a : isR.map (fun i => ws'[i]?) = L) (h3b : isR.map (fun i => ws[i]?) = L) (hl : ws.length = n) (hl' : ws'.length = n) (hc : (List.range n).all (fun j => is.contains j || isR.contains j) = true) (hn : va_nd is = true) : ws' = zrep is w1 ws := by
  have hlen : is.length = w1.length := by have := congrArg List.length h1; simpa using this
  have h3 := h3a.trans h3b.symm
  refine List.ext_getElem? fun j => ?_
  by_cases hj : j < n
  · have hcj := List.all_eq_true.mp hc j (List.mem_range.mpr hj)
    by_cases hi : j ∈ is
    · obtain ⟨k, hk⟩ := List.mem_iff_getElem?.mp hi
      rw [zrep_in is w1 ws hn hlen k j hk (by rw [hl]; exact hj)]
      have e : (is.map (fun i => ws'[i]?))[k]? = some (ws'[j]?) := by rw [List.getElem?_map, hk]; rfl
      rw [h1, List.getElem?_map] at e
      cases hq : w1[k]? with
      | none => rw [hq] at e; cases e
      | some q => rw [hq] at e; exact (Option.some.inj e).symm
    · have hr : j ∈ isR := by
        simpa [hi] using hcj
      rw [zrep_out is w1 ws j hi]
      exact zpt_of h3 j hr
  · rw [List.getElem?_eq_none (by omega), List.getElem?_eq_none (by rw [zrep_len]; omega)]
