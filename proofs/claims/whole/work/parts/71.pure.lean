/-! ===== PURE: all ===== -/
theorem pure_all : LawPure Rel := ⟨fun c x z h => ⟨RelB_mono (by omega) (by omega) h.1, h.2⟩, fun c x z g h => h, op_piece, op_joint, op_price, op_play, op_ask, op_leave, op_way, op_cost, op_reach, op_lacks, op_layer, op_sting, op_go, op_now, op_level, op_log, op_keep, op_goOn⟩
theorem x0_np : cnp x0 = 0 := by decide
theorem x0_nj : cnj x0 = 0 := by decide
theorem pure_start : Rel 0 x0 z0 := by
  refine ⟨⟨?_, ?_, ?_, ?_, ?_, ?_, ?_, ?_, ?_, ?_⟩, ?_⟩
  · refine ⟨⟨by decide, by decide⟩, ⟨by decide, by decide⟩, fun p hp => ?_, fun j hj => ?_, ⟨by decide, by decide⟩, ⟨by decide, by decide⟩⟩
    · rw [x0_np] at hp; omega
    · rw [x0_nj] at hj; omega
  · exact ⟨rfl, rfl, rfl, rfl, rfl, rfl, rfl, rfl, rfl, rfl, rfl, rfl⟩
  · refine ⟨0, rfl, Nat.le_refl _, Or.inl ⟨rfl, rfl⟩, Or.inl rfl, ⟨0, rfl, by omega, fun i hi => absurd hi (by omega)⟩, Or.inl rfl, fun p hp => ?_, fun p _ hp => ?_⟩
    · show (0 : Int32) ≤ 0
      decide
    · rfl
  · refine ⟨by decide, by decide, by decide, by decide, by decide, by decide, by decide, ?_, ?_, ?_, rfl, rfl⟩
    · decide
    · decide
    · decide
  · exact ⟨0, rfl, Nat.le_refl _, rfl, rfl, rfl, Or.inl ⟨by omega, rfl, rfl⟩⟩
  · exact Or.inl rfl
  · exact Or.inl ⟨rfl, rfl⟩
  · exact Or.inl ⟨rfl, rfl⟩
  · exact Or.inl ⟨rfl, rfl⟩
  · exact Or.inl ⟨rfl, rfl⟩
  · exact Or.inl ⟨rfl, rfl, rfl, rfl, rfl⟩
