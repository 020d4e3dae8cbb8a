/-! The laid table. -/
theorem ginit : GInv iX_136 iM_143 := by
  refine ⟨⟨by decide +kernel, by decide +kernel, by decide +kernel, by decide +kernel, by decide +kernel⟩, by decide +kernel, ⟨?_, ?_, ?_, ?_, ?_, ?_, ?_, ?_, ?_, ?_, ?_, ?_, ?_, ?_, ?_⟩, ?_, ?_, ?_, ?_⟩
  · exact ⟨by decide +kernel, by decide +kernel, by decide +kernel, by decide +kernel⟩
  · refine ⟨?_, ?_, ?_⟩
    · unfold gIn; decide +kernel
    · unfold gIn; decide +kernel
    · unfold gIn; decide +kernel
  · exact ⟨by decide +kernel, 0, by decide, by decide +kernel, fun i hi => by omega⟩
  · exact ⟨by decide +kernel, 0, by decide, by decide +kernel, fun i hi => by omega⟩
  · exact ⟨by decide +kernel, 0, by decide, by decide +kernel, fun i hi => by omega, by decide +kernel⟩
  · exact ⟨by decide +kernel, 0, by decide, by decide +kernel, fun i hi => by omega⟩
  · exact ⟨by decide +kernel, 0, by decide, by decide +kernel, fun i hi => by omega, by decide +kernel⟩
  · exact ⟨by decide +kernel, 0, by decide, by decide +kernel, fun i hi => by omega⟩
  · exact ⟨by decide +kernel, 0, by decide, by decide +kernel, fun i hi => by omega⟩
  · exact ⟨by decide +kernel, 0, by decide, by decide +kernel, fun i hi => by omega⟩
  · exact ⟨by decide +kernel, 0, by decide, by decide +kernel, fun i hi => by omega⟩
  · exact ⟨by decide +kernel, 0, by decide, by decide +kernel, fun i hi => by omega, by decide +kernel⟩
  · exact ⟨by decide +kernel, 0, by decide, by decide +kernel, fun i hi => by omega⟩
  · exact ⟨by decide +kernel, 0, by decide, by decide +kernel, fun i hi => by omega⟩
  · exact ⟨by decide +kernel, 0, by decide, by decide +kernel, fun i hi => by omega⟩
  · exact ⟨by decide +kernel, 0, 0, by decide, by decide, by decide +kernel, by decide +kernel, fun i hi => by omega⟩
  · exact ⟨by decide +kernel, 0, by decide, by decide +kernel, fun i hi => by omega⟩
  · decide +kernel
  · exact ⟨by decide +kernel, Or.inl (by decide +kernel)⟩
