/-! all calls agree -/
theorem all_agree : AllA Iv := ⟨ag_type, ag_read, ag_shortest, ag_exact, ag_middle, ag_digits, ag_fixed, ag_hex, ag_out, ag_decimal, ag_digit, ag_nearest, ag_power, ag_convert, ag_next, ag_steps, ag_compare, ag_order, ag_kind, ag_reads, ag_holds, ag_pass, ag_clear, ag_result, ag_flags⟩
theorem inv_start : Iv cs0 ms0 := by
  refine ⟨⟨0, by decide, rfl, rfl, fun i hi => by omega⟩, ⟨0, by decide, rfl, rfl, fun i hi => by omega⟩, ⟨0, by decide, rfl, rfl, rfl, rfl, .inl rfl, fun i hi => by omega⟩, ⟨rfl, rfl⟩, fun r hr => ?_⟩
  exact ⟨0, false, zero_ris (fun i hi => rfl)⟩
