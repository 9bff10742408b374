-- the first state of both
def S_0 : GS := mkGS 0 0 0 140185576636287 1099511627775 (fun _ => 0) (fun _ => -6) 0 0 5 0 0 0 0 0 (fun _ => 0) 0 0 5 0 0 0 0 0 (fun _ => 0)
def x_0 : XS := (S_0, 0, v7 S_0 S_0 S_0 S_0 S_0 S_0 S_0, f2 0 0, g2 S_0 S_0, 0, fun _ => 0)
def y_0 : MST := (mA ms_0 (fun _ => 0) (fun _ => 0) (fun _ => 0) (fun _ => 0) (fun _ => 0) (fun _ => 0), f2 0 0)
theorem S_0_ok : gok S_0 := ⟨⟨0, by omega, rfl⟩, ⟨0, by omega, rfl⟩⟩
theorem ch16_0 : ch16 0 := by unfold ch16; decide +kernel
theorem IX_0 : IX x_0 := ⟨S_0_ok, by decide, v7_all S_0_ok S_0_ok S_0_ok S_0_ok S_0_ok S_0_ok S_0_ok, g2_all S_0_ok S_0_ok, ⟨0, by omega, rfl⟩, fun _ => ch16_0⟩
theorem mi_0 : MI ms_0 := ⟨Or.inl (by decide +kernel), ⟨0, by omega, by decide +kernel⟩, ⟨0, by omega, by decide +kernel⟩⟩
theorem MIr_0 (o : Nat) : MIr (fun _ => 0) o := ⟨Or.inl rfl, ⟨0, by omega, rfl⟩, ⟨0, by omega, rfl⟩⟩
theorem IM_0 : IM y_0 := ⟨mi_0, ⟨0, by omega, rfl⟩, fun k _ => MIr_0 _, fun k _ => MIr_0 _, ⟨0, by omega, rfl⟩⟩
