/-! words of the tables that part 08 leaves out -/
theorem lX8_66 : Cond.methodLink RX8 66 arraycopyName ∈ gw := gw_in (i := 372) (by decide +kernel) (by decide +kernel)
theorem nAC : Cond.native arraycopyName ∈ gw := gw_in (i := 374) (by decide +kernel) (by decide +kernel)
theorem sAC : Cond.static arraycopyName ∈ gw := gw_in (i := 373) (by decide +kernel) (by decide +kernel)
theorem iAC : Cond.initialized "java/lang/System" ∈ gw := gw_in (i := 115) (by decide +kernel) (by decide +kernel)

