theorem rx_0 : RX x_0 y_0 := ⟨IX_0, IM_0, PE_0⟩
