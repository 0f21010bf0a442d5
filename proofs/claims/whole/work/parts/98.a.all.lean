section ZKa
/-- all that is owed of the two, over the bond -/
theorem zLw_all (L : Nat) : zLw zBm L := ⟨zLwq_m L, zLwd_m L, zmfact_0 L, zmfact_1 L, zfact_2 L, zmfact_3 L, zmfact_4 L, zmfact_5 L, zmfact_6 L, zmfact_7 L, zfact_8 L, zfact_9 L, zfact_10 L, zfact_11 L, zfact_12 L, zfact_13 L, zfact_14 L, zfact_15 L, zfact_16 L, zfact_17 L, zfact_18 L, zfact_19 L, zfact_20 L, zfact_21 L, zfact_22 L, zfact_23 L, zfact_24 L, zfact_25 L, zfact_26 L, zfact_27 L, zfact_28 L, zfact_29 L, zfact_30 L, zfact_31 L, zfact_32 L, zmfact_33 L⟩
end ZKa
