theorem ft_0_0 : px_fty 0 0 = some (.int) := by decide +kernel
theorem ft_0_1 : px_fty 0 1 = some (.int) := by decide +kernel
theorem ft_0_2 : px_fty 0 2 = some (.int) := by decide +kernel
theorem ft_1_0 : px_fty 1 0 = some (.int) := by decide +kernel
theorem ft_1_1 : px_fty 1 1 = some (.int) := by decide +kernel
theorem ft_1_2 : px_fty 1 2 = some (.int) := by decide +kernel
theorem ft_2_0 : px_fty 2 0 = some (.object "AllSworn$Realm") := by decide +kernel
theorem ft_2_1 : px_fty 2 1 = some (.array .int) := by decide +kernel
theorem ft_2_2 : px_fty 2 2 = some (.array .int) := by decide +kernel
theorem ft_2_3 : px_fty 2 3 = some (.int) := by decide +kernel
theorem ft_2_4 : px_fty 2 4 = some (.int) := by decide +kernel
theorem ft_3_0 : px_fty 3 0 = some (.int) := by decide +kernel
theorem ft_3_1 : px_fty 3 1 = some (.int) := by decide +kernel
theorem ft_3_2 : px_fty 3 2 = some (.int) := by decide +kernel
theorem ft_4_0 : px_fty 4 0 = some (.array .int) := by decide +kernel
theorem ft_4_1 : px_fty 4 1 = some (.int) := by decide +kernel
theorem ft_4_2 : px_fty 4 2 = some (.int) := by decide +kernel
theorem ft_4_3 : px_fty 4 3 = some (.int) := by decide +kernel
theorem ft_4_4 : px_fty 4 4 = some (.int) := by decide +kernel
theorem ft_5_0 : px_fty 5 0 = some (.array (.object "AllSworn$Thing")) := by decide +kernel
theorem ft_5_1 : px_fty 5 1 = some (.array .int) := by decide +kernel
theorem ft_5_2 : px_fty 5 2 = some (.array .int) := by decide +kernel
theorem ft_5_3 : px_fty 5 3 = some (.array .int) := by decide +kernel
theorem ft_5_4 : px_fty 5 4 = some (.int) := by decide +kernel
theorem ft_5_5 : px_fty 5 5 = some (.int) := by decide +kernel
theorem ft_5_6 : px_fty 5 6 = some (.int) := by decide +kernel
theorem ft_5_7 : px_fty 5 7 = some (.int) := by decide +kernel
theorem ft_5_8 : px_fty 5 8 = some (.int) := by decide +kernel
theorem ft_5_9 : px_fty 5 9 = some (.int) := by decide +kernel
theorem ft_6_0 : px_fty 6 0 = some (.array .int) := by decide +kernel
theorem ft_6_1 : px_fty 6 1 = some (.int) := by decide +kernel
theorem ft_6_2 : px_fty 6 2 = some (.int) := by decide +kernel
theorem ft_7_0 : px_fty 7 0 = some (.array .int) := by decide +kernel
theorem ft_7_1 : px_fty 7 1 = some (.int) := by decide +kernel
theorem ft_8_0 : px_fty 8 0 = some (.int) := by decide +kernel
theorem ft_8_1 : px_fty 8 1 = some (.int) := by decide +kernel
theorem ft_8_2 : px_fty 8 2 = some (.int) := by decide +kernel
theorem ft_9_0 : px_fty 9 0 = some (.int) := by decide +kernel
theorem ft_9_1 : px_fty 9 1 = some (.int) := by decide +kernel
theorem ft_9_2 : px_fty 9 2 = some (.int) := by decide +kernel
theorem ft_10_0 : px_fty 10 0 = some (.array (.object "AllSworn$Row")) := by decide +kernel
theorem ft_10_1 : px_fty 10 1 = some (.object "AllSworn$Reader") := by decide +kernel
theorem ft_10_2 : px_fty 10 2 = some (.object "AllSworn$Realm") := by decide +kernel
theorem ft_10_3 : px_fty 10 3 = some (.object "AllSworn$Realm") := by decide +kernel
theorem ft_10_4 : px_fty 10 4 = some (.array (.object "AllSworn$Realm")) := by decide +kernel
theorem ft_10_5 : px_fty 10 5 = some (.object "AllSworn$Oracle") := by decide +kernel
theorem ft_10_6 : px_fty 10 6 = some (.object "AllSworn$Trace") := by decide +kernel
theorem ft_10_7 : px_fty 10 7 = some (.int) := by decide +kernel
theorem ft_10_8 : px_fty 10 8 = some (.int) := by decide +kernel
theorem ft_11_0 : px_fty 11 0 = some (.array .int) := by decide +kernel
theorem ft_11_1 : px_fty 11 1 = some (.array .int) := by decide +kernel
theorem ft_11_2 : px_fty 11 2 = some (.array .int) := by decide +kernel
theorem ft_11_3 : px_fty 11 3 = some (.int) := by decide +kernel
theorem ft_11_4 : px_fty 11 4 = some (.array .int) := by decide +kernel
theorem ft_11_5 : px_fty 11 5 = some (.int) := by decide +kernel
theorem ft_11_6 : px_fty 11 6 = some (.array .boolean) := by decide +kernel
theorem ft_11_7 : px_fty 11 7 = some (.array .int) := by decide +kernel
theorem ft_11_8 : px_fty 11 8 = some (.int) := by decide +kernel
theorem ft_11_9 : px_fty 11 9 = some (.array .byte) := by decide +kernel
theorem ft_11_10 : px_fty 11 10 = some (.int) := by decide +kernel
theorem ft_11_11 : px_fty 11 11 = some (.int) := by decide +kernel
theorem ft_11_12 : px_fty 11 12 = some (.int) := by decide +kernel
theorem ft_11_13 : px_fty 11 13 = some (.int) := by decide +kernel
theorem ft_11_14 : px_fty 11 14 = some (.int) := by decide +kernel
theorem ft_11_15 : px_fty 11 15 = some (.int) := by decide +kernel
theorem ft_11_16 : px_fty 11 16 = some (.int) := by decide +kernel
theorem ft_11_17 : px_fty 11 17 = some (.int) := by decide +kernel
theorem ft_11_18 : px_fty 11 18 = some (.array .int) := by decide +kernel
theorem ft_11_19 : px_fty 11 19 = some (.array .int) := by decide +kernel
theorem ft_11_20 : px_fty 11 20 = some (.int) := by decide +kernel
theorem ft_11_21 : px_fty 11 21 = some (.array .int) := by decide +kernel
theorem ft_11_22 : px_fty 11 22 = some (.int) := by decide +kernel
theorem nfl_0 : px_newf (RX0, TX0, 3) = [.int 0, .int 0, .int 0] := by decide +kernel
theorem nfl_1 : px_newf (RX1, TX1, 3) = [.int 0, .int 0, .int 0] := by decide +kernel
theorem nfl_2 : px_newf (RX2, TX2, 5) = [.null, .null, .null, .int 0, .int 0] := by decide +kernel
theorem nfl_3 : px_newf (RX3, TX3, 3) = [.int 0, .int 0, .int 0] := by decide +kernel
theorem nfl_4 : px_newf (RX4, TX4, 5) = [.null, .int 0, .int 0, .int 0, .int 0] := by decide +kernel
theorem nfl_5 : px_newf (RX5, TX5, 10) = [.null, .null, .null, .null, .int 0, .int 0, .int 0, .int 0, .int 0, .int 0] := by decide +kernel
theorem nfl_6 : px_newf (RX6, TX6, 3) = [.null, .int 0, .int 0] := by decide +kernel
theorem nfl_7 : px_newf (RX8, TX8, 2) = [.null, .int 0] := by decide +kernel
theorem nfl_8 : px_newf (RX9, TX9, 3) = [.int 0, .int 0, .int 0] := by decide +kernel
theorem nfl_9 : px_newf (RX10, TX10, 3) = [.int 0, .int 0, .int 0] := by decide +kernel
theorem nfl_10 : px_newf (RX11, TX11, 9) = [.null, .null, .null, .null, .null, .null, .null, .int 0, .int 0] := by decide +kernel
theorem nfl_11 : px_newf (RX12, TX12, 23) = [.null, .null, .null, .int 0, .null, .int 0, .null, .null, .int 0, .null, .int 0, .int 0, .int 0, .int 0, .int 0, .int 0, .int 0, .int 0, .null, .null, .int 0, .null, .int 0] := by decide +kernel
