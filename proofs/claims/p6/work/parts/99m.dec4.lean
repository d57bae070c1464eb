theorem d_LA_law_906 : decode code 906 = .ok (.goto 3, 3) := by decide +kernel
