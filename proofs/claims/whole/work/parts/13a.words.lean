/-! words, callees -/
theorem npm_0 : (yn 0).cls ≠ "java/lang/invoke/MethodHandle" ∧ (yn 0).cls ≠ "java/lang/invoke/VarHandle" ∧ (parseMethodDescriptor (yn 0).desc).map (fun d => d.parameters.length) = some 0 := ⟨by decide +kernel, by decide +kernel, by decide +kernel⟩
theorem pln_0 : plainFor (yn 0) = true := by decide +kernel
theorem npm_2 : (yn 2).cls ≠ "java/lang/invoke/MethodHandle" ∧ (yn 2).cls ≠ "java/lang/invoke/VarHandle" ∧ (parseMethodDescriptor (yn 2).desc).map (fun d => d.parameters.length) = some 0 := ⟨by decide +kernel, by decide +kernel, by decide +kernel⟩
theorem pln_2 : plainFor (yn 2) = true := by decide +kernel
theorem npm_3 : (yn 3).cls ≠ "java/lang/invoke/MethodHandle" ∧ (yn 3).cls ≠ "java/lang/invoke/VarHandle" ∧ (parseMethodDescriptor (yn 3).desc).map (fun d => d.parameters.length) = some 0 := ⟨by decide +kernel, by decide +kernel, by decide +kernel⟩
theorem pln_3 : plainFor (yn 3) = true := by decide +kernel
theorem npm_4 : (yn 4).cls ≠ "java/lang/invoke/MethodHandle" ∧ (yn 4).cls ≠ "java/lang/invoke/VarHandle" ∧ (parseMethodDescriptor (yn 4).desc).map (fun d => d.parameters.length) = some 0 := ⟨by decide +kernel, by decide +kernel, by decide +kernel⟩
theorem pln_4 : plainFor (yn 4) = true := by decide +kernel
theorem npm_5 : (yn 5).cls ≠ "java/lang/invoke/MethodHandle" ∧ (yn 5).cls ≠ "java/lang/invoke/VarHandle" ∧ (parseMethodDescriptor (yn 5).desc).map (fun d => d.parameters.length) = some 2 := ⟨by decide +kernel, by decide +kernel, by decide +kernel⟩
theorem pln_5 : plainFor (yn 5) = true := by decide +kernel
theorem npm_6 : (yn 6).cls ≠ "java/lang/invoke/MethodHandle" ∧ (yn 6).cls ≠ "java/lang/invoke/VarHandle" ∧ (parseMethodDescriptor (yn 6).desc).map (fun d => d.parameters.length) = some 3 := ⟨by decide +kernel, by decide +kernel, by decide +kernel⟩
theorem pln_6 : plainFor (yn 6) = true := by decide +kernel
theorem npm_7 : (yn 7).cls ≠ "java/lang/invoke/MethodHandle" ∧ (yn 7).cls ≠ "java/lang/invoke/VarHandle" ∧ (parseMethodDescriptor (yn 7).desc).map (fun d => d.parameters.length) = some 3 := ⟨by decide +kernel, by decide +kernel, by decide +kernel⟩
theorem pln_7 : plainFor (yn 7) = true := by decide +kernel
theorem npm_8 : (yn 8).cls ≠ "java/lang/invoke/MethodHandle" ∧ (yn 8).cls ≠ "java/lang/invoke/VarHandle" ∧ (parseMethodDescriptor (yn 8).desc).map (fun d => d.parameters.length) = some 2 := ⟨by decide +kernel, by decide +kernel, by decide +kernel⟩
theorem pln_8 : plainFor (yn 8) = true := by decide +kernel
theorem npm_9 : (yn 9).cls ≠ "java/lang/invoke/MethodHandle" ∧ (yn 9).cls ≠ "java/lang/invoke/VarHandle" ∧ (parseMethodDescriptor (yn 9).desc).map (fun d => d.parameters.length) = some 0 := ⟨by decide +kernel, by decide +kernel, by decide +kernel⟩
theorem pln_9 : plainFor (yn 9) = true := by decide +kernel
theorem npm_10 : (yn 10).cls ≠ "java/lang/invoke/MethodHandle" ∧ (yn 10).cls ≠ "java/lang/invoke/VarHandle" ∧ (parseMethodDescriptor (yn 10).desc).map (fun d => d.parameters.length) = some 1 := ⟨by decide +kernel, by decide +kernel, by decide +kernel⟩
theorem pln_10 : plainFor (yn 10) = true := by decide +kernel
theorem npm_11 : (yn 11).cls ≠ "java/lang/invoke/MethodHandle" ∧ (yn 11).cls ≠ "java/lang/invoke/VarHandle" ∧ (parseMethodDescriptor (yn 11).desc).map (fun d => d.parameters.length) = some 0 := ⟨by decide +kernel, by decide +kernel, by decide +kernel⟩
theorem pln_11 : plainFor (yn 11) = true := by decide +kernel
theorem npm_12 : (yn 12).cls ≠ "java/lang/invoke/MethodHandle" ∧ (yn 12).cls ≠ "java/lang/invoke/VarHandle" ∧ (parseMethodDescriptor (yn 12).desc).map (fun d => d.parameters.length) = some 7 := ⟨by decide +kernel, by decide +kernel, by decide +kernel⟩
theorem pln_12 : plainFor (yn 12) = true := by decide +kernel
theorem npm_13 : (yn 13).cls ≠ "java/lang/invoke/MethodHandle" ∧ (yn 13).cls ≠ "java/lang/invoke/VarHandle" ∧ (parseMethodDescriptor (yn 13).desc).map (fun d => d.parameters.length) = some 1 := ⟨by decide +kernel, by decide +kernel, by decide +kernel⟩
theorem pln_13 : plainFor (yn 13) = true := by decide +kernel
theorem npm_14 : (yn 14).cls ≠ "java/lang/invoke/MethodHandle" ∧ (yn 14).cls ≠ "java/lang/invoke/VarHandle" ∧ (parseMethodDescriptor (yn 14).desc).map (fun d => d.parameters.length) = some 2 := ⟨by decide +kernel, by decide +kernel, by decide +kernel⟩
theorem pln_14 : plainFor (yn 14) = true := by decide +kernel
theorem npm_15 : (yn 15).cls ≠ "java/lang/invoke/MethodHandle" ∧ (yn 15).cls ≠ "java/lang/invoke/VarHandle" ∧ (parseMethodDescriptor (yn 15).desc).map (fun d => d.parameters.length) = some 1 := ⟨by decide +kernel, by decide +kernel, by decide +kernel⟩
theorem pln_15 : plainFor (yn 15) = true := by decide +kernel
theorem npm_16 : (yn 16).cls ≠ "java/lang/invoke/MethodHandle" ∧ (yn 16).cls ≠ "java/lang/invoke/VarHandle" ∧ (parseMethodDescriptor (yn 16).desc).map (fun d => d.parameters.length) = some 0 := ⟨by decide +kernel, by decide +kernel, by decide +kernel⟩
theorem pln_16 : plainFor (yn 16) = true := by decide +kernel
theorem npm_17 : (yn 17).cls ≠ "java/lang/invoke/MethodHandle" ∧ (yn 17).cls ≠ "java/lang/invoke/VarHandle" ∧ (parseMethodDescriptor (yn 17).desc).map (fun d => d.parameters.length) = some 0 := ⟨by decide +kernel, by decide +kernel, by decide +kernel⟩
theorem pln_17 : plainFor (yn 17) = true := by decide +kernel
theorem npm_18 : (yn 18).cls ≠ "java/lang/invoke/MethodHandle" ∧ (yn 18).cls ≠ "java/lang/invoke/VarHandle" ∧ (parseMethodDescriptor (yn 18).desc).map (fun d => d.parameters.length) = some 1 := ⟨by decide +kernel, by decide +kernel, by decide +kernel⟩
theorem pln_18 : plainFor (yn 18) = true := by decide +kernel
theorem npm_19 : (yn 19).cls ≠ "java/lang/invoke/MethodHandle" ∧ (yn 19).cls ≠ "java/lang/invoke/VarHandle" ∧ (parseMethodDescriptor (yn 19).desc).map (fun d => d.parameters.length) = some 3 := ⟨by decide +kernel, by decide +kernel, by decide +kernel⟩
theorem pln_19 : plainFor (yn 19) = true := by decide +kernel
theorem npm_20 : (yn 20).cls ≠ "java/lang/invoke/MethodHandle" ∧ (yn 20).cls ≠ "java/lang/invoke/VarHandle" ∧ (parseMethodDescriptor (yn 20).desc).map (fun d => d.parameters.length) = some 4 := ⟨by decide +kernel, by decide +kernel, by decide +kernel⟩
theorem pln_20 : plainFor (yn 20) = true := by decide +kernel
theorem npm_21 : (yn 21).cls ≠ "java/lang/invoke/MethodHandle" ∧ (yn 21).cls ≠ "java/lang/invoke/VarHandle" ∧ (parseMethodDescriptor (yn 21).desc).map (fun d => d.parameters.length) = some 2 := ⟨by decide +kernel, by decide +kernel, by decide +kernel⟩
theorem pln_21 : plainFor (yn 21) = true := by decide +kernel
theorem npm_22 : (yn 22).cls ≠ "java/lang/invoke/MethodHandle" ∧ (yn 22).cls ≠ "java/lang/invoke/VarHandle" ∧ (parseMethodDescriptor (yn 22).desc).map (fun d => d.parameters.length) = some 1 := ⟨by decide +kernel, by decide +kernel, by decide +kernel⟩
theorem pln_22 : plainFor (yn 22) = true := by decide +kernel
theorem npm_23 : (yn 23).cls ≠ "java/lang/invoke/MethodHandle" ∧ (yn 23).cls ≠ "java/lang/invoke/VarHandle" ∧ (parseMethodDescriptor (yn 23).desc).map (fun d => d.parameters.length) = some 0 := ⟨by decide +kernel, by decide +kernel, by decide +kernel⟩
theorem pln_23 : plainFor (yn 23) = true := by decide +kernel
theorem npm_24 : (yn 24).cls ≠ "java/lang/invoke/MethodHandle" ∧ (yn 24).cls ≠ "java/lang/invoke/VarHandle" ∧ (parseMethodDescriptor (yn 24).desc).map (fun d => d.parameters.length) = some 1 := ⟨by decide +kernel, by decide +kernel, by decide +kernel⟩
theorem pln_24 : plainFor (yn 24) = true := by decide +kernel
theorem npm_25 : (yn 25).cls ≠ "java/lang/invoke/MethodHandle" ∧ (yn 25).cls ≠ "java/lang/invoke/VarHandle" ∧ (parseMethodDescriptor (yn 25).desc).map (fun d => d.parameters.length) = some 2 := ⟨by decide +kernel, by decide +kernel, by decide +kernel⟩
theorem pln_25 : plainFor (yn 25) = true := by decide +kernel
theorem npm_26 : (yn 26).cls ≠ "java/lang/invoke/MethodHandle" ∧ (yn 26).cls ≠ "java/lang/invoke/VarHandle" ∧ (parseMethodDescriptor (yn 26).desc).map (fun d => d.parameters.length) = some 2 := ⟨by decide +kernel, by decide +kernel, by decide +kernel⟩
theorem pln_26 : plainFor (yn 26) = true := by decide +kernel
theorem npm_27 : (yn 27).cls ≠ "java/lang/invoke/MethodHandle" ∧ (yn 27).cls ≠ "java/lang/invoke/VarHandle" ∧ (parseMethodDescriptor (yn 27).desc).map (fun d => d.parameters.length) = some 2 := ⟨by decide +kernel, by decide +kernel, by decide +kernel⟩
theorem pln_27 : plainFor (yn 27) = true := by decide +kernel
theorem npm_28 : (yn 28).cls ≠ "java/lang/invoke/MethodHandle" ∧ (yn 28).cls ≠ "java/lang/invoke/VarHandle" ∧ (parseMethodDescriptor (yn 28).desc).map (fun d => d.parameters.length) = some 1 := ⟨by decide +kernel, by decide +kernel, by decide +kernel⟩
theorem pln_28 : plainFor (yn 28) = true := by decide +kernel
theorem npm_29 : (yn 29).cls ≠ "java/lang/invoke/MethodHandle" ∧ (yn 29).cls ≠ "java/lang/invoke/VarHandle" ∧ (parseMethodDescriptor (yn 29).desc).map (fun d => d.parameters.length) = some 0 := ⟨by decide +kernel, by decide +kernel, by decide +kernel⟩
theorem pln_29 : plainFor (yn 29) = true := by decide +kernel
theorem npm_30 : (yn 30).cls ≠ "java/lang/invoke/MethodHandle" ∧ (yn 30).cls ≠ "java/lang/invoke/VarHandle" ∧ (parseMethodDescriptor (yn 30).desc).map (fun d => d.parameters.length) = some 1 := ⟨by decide +kernel, by decide +kernel, by decide +kernel⟩
theorem pln_30 : plainFor (yn 30) = true := by decide +kernel
theorem npm_31 : (yn 31).cls ≠ "java/lang/invoke/MethodHandle" ∧ (yn 31).cls ≠ "java/lang/invoke/VarHandle" ∧ (parseMethodDescriptor (yn 31).desc).map (fun d => d.parameters.length) = some 3 := ⟨by decide +kernel, by decide +kernel, by decide +kernel⟩
theorem pln_31 : plainFor (yn 31) = true := by decide +kernel
theorem npm_32 : (yn 32).cls ≠ "java/lang/invoke/MethodHandle" ∧ (yn 32).cls ≠ "java/lang/invoke/VarHandle" ∧ (parseMethodDescriptor (yn 32).desc).map (fun d => d.parameters.length) = some 4 := ⟨by decide +kernel, by decide +kernel, by decide +kernel⟩
theorem pln_32 : plainFor (yn 32) = true := by decide +kernel
theorem npm_33 : (yn 33).cls ≠ "java/lang/invoke/MethodHandle" ∧ (yn 33).cls ≠ "java/lang/invoke/VarHandle" ∧ (parseMethodDescriptor (yn 33).desc).map (fun d => d.parameters.length) = some 2 := ⟨by decide +kernel, by decide +kernel, by decide +kernel⟩
theorem pln_33 : plainFor (yn 33) = true := by decide +kernel
theorem npm_34 : (yn 34).cls ≠ "java/lang/invoke/MethodHandle" ∧ (yn 34).cls ≠ "java/lang/invoke/VarHandle" ∧ (parseMethodDescriptor (yn 34).desc).map (fun d => d.parameters.length) = some 5 := ⟨by decide +kernel, by decide +kernel, by decide +kernel⟩
theorem pln_34 : plainFor (yn 34) = true := by decide +kernel
theorem npm_35 : (yn 35).cls ≠ "java/lang/invoke/MethodHandle" ∧ (yn 35).cls ≠ "java/lang/invoke/VarHandle" ∧ (parseMethodDescriptor (yn 35).desc).map (fun d => d.parameters.length) = some 1 := ⟨by decide +kernel, by decide +kernel, by decide +kernel⟩
theorem pln_35 : plainFor (yn 35) = true := by decide +kernel
theorem npm_36 : (yn 36).cls ≠ "java/lang/invoke/MethodHandle" ∧ (yn 36).cls ≠ "java/lang/invoke/VarHandle" ∧ (parseMethodDescriptor (yn 36).desc).map (fun d => d.parameters.length) = some 2 := ⟨by decide +kernel, by decide +kernel, by decide +kernel⟩
theorem pln_36 : plainFor (yn 36) = true := by decide +kernel
theorem npm_37 : (yn 37).cls ≠ "java/lang/invoke/MethodHandle" ∧ (yn 37).cls ≠ "java/lang/invoke/VarHandle" ∧ (parseMethodDescriptor (yn 37).desc).map (fun d => d.parameters.length) = some 2 := ⟨by decide +kernel, by decide +kernel, by decide +kernel⟩
theorem pln_37 : plainFor (yn 37) = true := by decide +kernel
theorem npm_38 : (yn 38).cls ≠ "java/lang/invoke/MethodHandle" ∧ (yn 38).cls ≠ "java/lang/invoke/VarHandle" ∧ (parseMethodDescriptor (yn 38).desc).map (fun d => d.parameters.length) = some 0 := ⟨by decide +kernel, by decide +kernel, by decide +kernel⟩
theorem pln_38 : plainFor (yn 38) = true := by decide +kernel
theorem npm_39 : (yn 39).cls ≠ "java/lang/invoke/MethodHandle" ∧ (yn 39).cls ≠ "java/lang/invoke/VarHandle" ∧ (parseMethodDescriptor (yn 39).desc).map (fun d => d.parameters.length) = some 1 := ⟨by decide +kernel, by decide +kernel, by decide +kernel⟩
theorem pln_39 : plainFor (yn 39) = true := by decide +kernel
theorem npm_40 : (yn 40).cls ≠ "java/lang/invoke/MethodHandle" ∧ (yn 40).cls ≠ "java/lang/invoke/VarHandle" ∧ (parseMethodDescriptor (yn 40).desc).map (fun d => d.parameters.length) = some 1 := ⟨by decide +kernel, by decide +kernel, by decide +kernel⟩
theorem pln_40 : plainFor (yn 40) = true := by decide +kernel
theorem npm_41 : (yn 41).cls ≠ "java/lang/invoke/MethodHandle" ∧ (yn 41).cls ≠ "java/lang/invoke/VarHandle" ∧ (parseMethodDescriptor (yn 41).desc).map (fun d => d.parameters.length) = some 1 := ⟨by decide +kernel, by decide +kernel, by decide +kernel⟩
theorem pln_41 : plainFor (yn 41) = true := by decide +kernel
theorem npm_42 : (yn 42).cls ≠ "java/lang/invoke/MethodHandle" ∧ (yn 42).cls ≠ "java/lang/invoke/VarHandle" ∧ (parseMethodDescriptor (yn 42).desc).map (fun d => d.parameters.length) = some 1 := ⟨by decide +kernel, by decide +kernel, by decide +kernel⟩
theorem pln_42 : plainFor (yn 42) = true := by decide +kernel
theorem npm_43 : (yn 43).cls ≠ "java/lang/invoke/MethodHandle" ∧ (yn 43).cls ≠ "java/lang/invoke/VarHandle" ∧ (parseMethodDescriptor (yn 43).desc).map (fun d => d.parameters.length) = some 0 := ⟨by decide +kernel, by decide +kernel, by decide +kernel⟩
theorem pln_43 : plainFor (yn 43) = true := by decide +kernel
theorem npm_44 : (yn 44).cls ≠ "java/lang/invoke/MethodHandle" ∧ (yn 44).cls ≠ "java/lang/invoke/VarHandle" ∧ (parseMethodDescriptor (yn 44).desc).map (fun d => d.parameters.length) = some 2 := ⟨by decide +kernel, by decide +kernel, by decide +kernel⟩
theorem pln_44 : plainFor (yn 44) = true := by decide +kernel
theorem npm_45 : (yn 45).cls ≠ "java/lang/invoke/MethodHandle" ∧ (yn 45).cls ≠ "java/lang/invoke/VarHandle" ∧ (parseMethodDescriptor (yn 45).desc).map (fun d => d.parameters.length) = some 2 := ⟨by decide +kernel, by decide +kernel, by decide +kernel⟩
theorem pln_45 : plainFor (yn 45) = true := by decide +kernel
theorem npm_46 : (yn 46).cls ≠ "java/lang/invoke/MethodHandle" ∧ (yn 46).cls ≠ "java/lang/invoke/VarHandle" ∧ (parseMethodDescriptor (yn 46).desc).map (fun d => d.parameters.length) = some 3 := ⟨by decide +kernel, by decide +kernel, by decide +kernel⟩
theorem pln_46 : plainFor (yn 46) = true := by decide +kernel
theorem npm_47 : (yn 47).cls ≠ "java/lang/invoke/MethodHandle" ∧ (yn 47).cls ≠ "java/lang/invoke/VarHandle" ∧ (parseMethodDescriptor (yn 47).desc).map (fun d => d.parameters.length) = some 1 := ⟨by decide +kernel, by decide +kernel, by decide +kernel⟩
theorem pln_47 : plainFor (yn 47) = true := by decide +kernel
theorem npm_48 : (yn 48).cls ≠ "java/lang/invoke/MethodHandle" ∧ (yn 48).cls ≠ "java/lang/invoke/VarHandle" ∧ (parseMethodDescriptor (yn 48).desc).map (fun d => d.parameters.length) = some 1 := ⟨by decide +kernel, by decide +kernel, by decide +kernel⟩
theorem pln_48 : plainFor (yn 48) = true := by decide +kernel
theorem npm_49 : (yn 49).cls ≠ "java/lang/invoke/MethodHandle" ∧ (yn 49).cls ≠ "java/lang/invoke/VarHandle" ∧ (parseMethodDescriptor (yn 49).desc).map (fun d => d.parameters.length) = some 3 := ⟨by decide +kernel, by decide +kernel, by decide +kernel⟩
theorem pln_49 : plainFor (yn 49) = true := by decide +kernel
theorem npm_50 : (yn 50).cls ≠ "java/lang/invoke/MethodHandle" ∧ (yn 50).cls ≠ "java/lang/invoke/VarHandle" ∧ (parseMethodDescriptor (yn 50).desc).map (fun d => d.parameters.length) = some 3 := ⟨by decide +kernel, by decide +kernel, by decide +kernel⟩
theorem pln_50 : plainFor (yn 50) = true := by decide +kernel
theorem npm_51 : (yn 51).cls ≠ "java/lang/invoke/MethodHandle" ∧ (yn 51).cls ≠ "java/lang/invoke/VarHandle" ∧ (parseMethodDescriptor (yn 51).desc).map (fun d => d.parameters.length) = some 0 := ⟨by decide +kernel, by decide +kernel, by decide +kernel⟩
theorem pln_51 : plainFor (yn 51) = true := by decide +kernel
theorem npm_52 : (yn 52).cls ≠ "java/lang/invoke/MethodHandle" ∧ (yn 52).cls ≠ "java/lang/invoke/VarHandle" ∧ (parseMethodDescriptor (yn 52).desc).map (fun d => d.parameters.length) = some 1 := ⟨by decide +kernel, by decide +kernel, by decide +kernel⟩
theorem pln_52 : plainFor (yn 52) = true := by decide +kernel
theorem npm_53 : (yn 53).cls ≠ "java/lang/invoke/MethodHandle" ∧ (yn 53).cls ≠ "java/lang/invoke/VarHandle" ∧ (parseMethodDescriptor (yn 53).desc).map (fun d => d.parameters.length) = some 1 := ⟨by decide +kernel, by decide +kernel, by decide +kernel⟩
theorem pln_53 : plainFor (yn 53) = true := by decide +kernel
theorem npm_54 : (yn 54).cls ≠ "java/lang/invoke/MethodHandle" ∧ (yn 54).cls ≠ "java/lang/invoke/VarHandle" ∧ (parseMethodDescriptor (yn 54).desc).map (fun d => d.parameters.length) = some 1 := ⟨by decide +kernel, by decide +kernel, by decide +kernel⟩
theorem pln_54 : plainFor (yn 54) = true := by decide +kernel
theorem npm_55 : (yn 55).cls ≠ "java/lang/invoke/MethodHandle" ∧ (yn 55).cls ≠ "java/lang/invoke/VarHandle" ∧ (parseMethodDescriptor (yn 55).desc).map (fun d => d.parameters.length) = some 1 := ⟨by decide +kernel, by decide +kernel, by decide +kernel⟩
theorem pln_55 : plainFor (yn 55) = true := by decide +kernel
theorem npm_56 : (yn 56).cls ≠ "java/lang/invoke/MethodHandle" ∧ (yn 56).cls ≠ "java/lang/invoke/VarHandle" ∧ (parseMethodDescriptor (yn 56).desc).map (fun d => d.parameters.length) = some 1 := ⟨by decide +kernel, by decide +kernel, by decide +kernel⟩
theorem pln_56 : plainFor (yn 56) = true := by decide +kernel
theorem npm_57 : (yn 57).cls ≠ "java/lang/invoke/MethodHandle" ∧ (yn 57).cls ≠ "java/lang/invoke/VarHandle" ∧ (parseMethodDescriptor (yn 57).desc).map (fun d => d.parameters.length) = some 1 := ⟨by decide +kernel, by decide +kernel, by decide +kernel⟩
theorem pln_57 : plainFor (yn 57) = true := by decide +kernel
theorem npm_58 : (yn 58).cls ≠ "java/lang/invoke/MethodHandle" ∧ (yn 58).cls ≠ "java/lang/invoke/VarHandle" ∧ (parseMethodDescriptor (yn 58).desc).map (fun d => d.parameters.length) = some 1 := ⟨by decide +kernel, by decide +kernel, by decide +kernel⟩
theorem pln_58 : plainFor (yn 58) = true := by decide +kernel
theorem npm_59 : (yn 59).cls ≠ "java/lang/invoke/MethodHandle" ∧ (yn 59).cls ≠ "java/lang/invoke/VarHandle" ∧ (parseMethodDescriptor (yn 59).desc).map (fun d => d.parameters.length) = some 1 := ⟨by decide +kernel, by decide +kernel, by decide +kernel⟩
theorem pln_59 : plainFor (yn 59) = true := by decide +kernel
theorem npm_60 : (yn 60).cls ≠ "java/lang/invoke/MethodHandle" ∧ (yn 60).cls ≠ "java/lang/invoke/VarHandle" ∧ (parseMethodDescriptor (yn 60).desc).map (fun d => d.parameters.length) = some 1 := ⟨by decide +kernel, by decide +kernel, by decide +kernel⟩
theorem pln_60 : plainFor (yn 60) = true := by decide +kernel
theorem npm_61 : (yn 61).cls ≠ "java/lang/invoke/MethodHandle" ∧ (yn 61).cls ≠ "java/lang/invoke/VarHandle" ∧ (parseMethodDescriptor (yn 61).desc).map (fun d => d.parameters.length) = some 1 := ⟨by decide +kernel, by decide +kernel, by decide +kernel⟩
theorem pln_61 : plainFor (yn 61) = true := by decide +kernel
theorem npm_62 : (yn 62).cls ≠ "java/lang/invoke/MethodHandle" ∧ (yn 62).cls ≠ "java/lang/invoke/VarHandle" ∧ (parseMethodDescriptor (yn 62).desc).map (fun d => d.parameters.length) = some 1 := ⟨by decide +kernel, by decide +kernel, by decide +kernel⟩
theorem pln_62 : plainFor (yn 62) = true := by decide +kernel
theorem npm_63 : (yn 63).cls ≠ "java/lang/invoke/MethodHandle" ∧ (yn 63).cls ≠ "java/lang/invoke/VarHandle" ∧ (parseMethodDescriptor (yn 63).desc).map (fun d => d.parameters.length) = some 1 := ⟨by decide +kernel, by decide +kernel, by decide +kernel⟩
theorem pln_63 : plainFor (yn 63) = true := by decide +kernel
theorem npm_64 : (yn 64).cls ≠ "java/lang/invoke/MethodHandle" ∧ (yn 64).cls ≠ "java/lang/invoke/VarHandle" ∧ (parseMethodDescriptor (yn 64).desc).map (fun d => d.parameters.length) = some 1 := ⟨by decide +kernel, by decide +kernel, by decide +kernel⟩
theorem pln_64 : plainFor (yn 64) = true := by decide +kernel
theorem npm_65 : (yn 65).cls ≠ "java/lang/invoke/MethodHandle" ∧ (yn 65).cls ≠ "java/lang/invoke/VarHandle" ∧ (parseMethodDescriptor (yn 65).desc).map (fun d => d.parameters.length) = some 2 := ⟨by decide +kernel, by decide +kernel, by decide +kernel⟩
theorem pln_65 : plainFor (yn 65) = true := by decide +kernel
theorem npm_66 : (yn 66).cls ≠ "java/lang/invoke/MethodHandle" ∧ (yn 66).cls ≠ "java/lang/invoke/VarHandle" ∧ (parseMethodDescriptor (yn 66).desc).map (fun d => d.parameters.length) = some 1 := ⟨by decide +kernel, by decide +kernel, by decide +kernel⟩
theorem pln_66 : plainFor (yn 66) = true := by decide +kernel
theorem npm_67 : (yn 67).cls ≠ "java/lang/invoke/MethodHandle" ∧ (yn 67).cls ≠ "java/lang/invoke/VarHandle" ∧ (parseMethodDescriptor (yn 67).desc).map (fun d => d.parameters.length) = some 2 := ⟨by decide +kernel, by decide +kernel, by decide +kernel⟩
theorem pln_67 : plainFor (yn 67) = true := by decide +kernel
theorem npm_68 : (yn 68).cls ≠ "java/lang/invoke/MethodHandle" ∧ (yn 68).cls ≠ "java/lang/invoke/VarHandle" ∧ (parseMethodDescriptor (yn 68).desc).map (fun d => d.parameters.length) = some 1 := ⟨by decide +kernel, by decide +kernel, by decide +kernel⟩
theorem pln_68 : plainFor (yn 68) = true := by decide +kernel
theorem npm_69 : (yn 69).cls ≠ "java/lang/invoke/MethodHandle" ∧ (yn 69).cls ≠ "java/lang/invoke/VarHandle" ∧ (parseMethodDescriptor (yn 69).desc).map (fun d => d.parameters.length) = some 1 := ⟨by decide +kernel, by decide +kernel, by decide +kernel⟩
theorem pln_69 : plainFor (yn 69) = true := by decide +kernel
theorem npm_70 : (yn 70).cls ≠ "java/lang/invoke/MethodHandle" ∧ (yn 70).cls ≠ "java/lang/invoke/VarHandle" ∧ (parseMethodDescriptor (yn 70).desc).map (fun d => d.parameters.length) = some 0 := ⟨by decide +kernel, by decide +kernel, by decide +kernel⟩
theorem pln_70 : plainFor (yn 70) = true := by decide +kernel
theorem npm_71 : (yn 71).cls ≠ "java/lang/invoke/MethodHandle" ∧ (yn 71).cls ≠ "java/lang/invoke/VarHandle" ∧ (parseMethodDescriptor (yn 71).desc).map (fun d => d.parameters.length) = some 2 := ⟨by decide +kernel, by decide +kernel, by decide +kernel⟩
theorem pln_71 : plainFor (yn 71) = true := by decide +kernel
theorem npm_72 : (yn 72).cls ≠ "java/lang/invoke/MethodHandle" ∧ (yn 72).cls ≠ "java/lang/invoke/VarHandle" ∧ (parseMethodDescriptor (yn 72).desc).map (fun d => d.parameters.length) = some 0 := ⟨by decide +kernel, by decide +kernel, by decide +kernel⟩
theorem pln_72 : plainFor (yn 72) = true := by decide +kernel
theorem npm_73 : (yn 73).cls ≠ "java/lang/invoke/MethodHandle" ∧ (yn 73).cls ≠ "java/lang/invoke/VarHandle" ∧ (parseMethodDescriptor (yn 73).desc).map (fun d => d.parameters.length) = some 2 := ⟨by decide +kernel, by decide +kernel, by decide +kernel⟩
theorem pln_73 : plainFor (yn 73) = true := by decide +kernel
theorem npm_74 : (yn 74).cls ≠ "java/lang/invoke/MethodHandle" ∧ (yn 74).cls ≠ "java/lang/invoke/VarHandle" ∧ (parseMethodDescriptor (yn 74).desc).map (fun d => d.parameters.length) = some 3 := ⟨by decide +kernel, by decide +kernel, by decide +kernel⟩
theorem pln_74 : plainFor (yn 74) = true := by decide +kernel
theorem npm_75 : (yn 75).cls ≠ "java/lang/invoke/MethodHandle" ∧ (yn 75).cls ≠ "java/lang/invoke/VarHandle" ∧ (parseMethodDescriptor (yn 75).desc).map (fun d => d.parameters.length) = some 1 := ⟨by decide +kernel, by decide +kernel, by decide +kernel⟩
theorem pln_75 : plainFor (yn 75) = true := by decide +kernel
theorem npm_76 : (yn 76).cls ≠ "java/lang/invoke/MethodHandle" ∧ (yn 76).cls ≠ "java/lang/invoke/VarHandle" ∧ (parseMethodDescriptor (yn 76).desc).map (fun d => d.parameters.length) = some 1 := ⟨by decide +kernel, by decide +kernel, by decide +kernel⟩
theorem pln_76 : plainFor (yn 76) = true := by decide +kernel
theorem npm_79 : (yn 79).cls ≠ "java/lang/invoke/MethodHandle" ∧ (yn 79).cls ≠ "java/lang/invoke/VarHandle" ∧ (parseMethodDescriptor (yn 79).desc).map (fun d => d.parameters.length) = some 1 := ⟨by decide +kernel, by decide +kernel, by decide +kernel⟩
theorem pln_79 : plainFor (yn 79) = true := by decide +kernel
theorem npm_80 : (yn 80).cls ≠ "java/lang/invoke/MethodHandle" ∧ (yn 80).cls ≠ "java/lang/invoke/VarHandle" ∧ (parseMethodDescriptor (yn 80).desc).map (fun d => d.parameters.length) = some 4 := ⟨by decide +kernel, by decide +kernel, by decide +kernel⟩
theorem pln_80 : plainFor (yn 80) = true := by decide +kernel
theorem npm_81 : (yn 81).cls ≠ "java/lang/invoke/MethodHandle" ∧ (yn 81).cls ≠ "java/lang/invoke/VarHandle" ∧ (parseMethodDescriptor (yn 81).desc).map (fun d => d.parameters.length) = some 4 := ⟨by decide +kernel, by decide +kernel, by decide +kernel⟩
theorem pln_81 : plainFor (yn 81) = true := by decide +kernel
theorem npm_82 : (yn 82).cls ≠ "java/lang/invoke/MethodHandle" ∧ (yn 82).cls ≠ "java/lang/invoke/VarHandle" ∧ (parseMethodDescriptor (yn 82).desc).map (fun d => d.parameters.length) = some 0 := ⟨by decide +kernel, by decide +kernel, by decide +kernel⟩
theorem pln_82 : plainFor (yn 82) = true := by decide +kernel
theorem npm_83 : (yn 83).cls ≠ "java/lang/invoke/MethodHandle" ∧ (yn 83).cls ≠ "java/lang/invoke/VarHandle" ∧ (parseMethodDescriptor (yn 83).desc).map (fun d => d.parameters.length) = some 0 := ⟨by decide +kernel, by decide +kernel, by decide +kernel⟩
theorem pln_83 : plainFor (yn 83) = true := by decide +kernel
theorem npm_86 : (yn 86).cls ≠ "java/lang/invoke/MethodHandle" ∧ (yn 86).cls ≠ "java/lang/invoke/VarHandle" ∧ (parseMethodDescriptor (yn 86).desc).map (fun d => d.parameters.length) = some 1 := ⟨by decide +kernel, by decide +kernel, by decide +kernel⟩
theorem pln_86 : plainFor (yn 86) = true := by decide +kernel
theorem npm_87 : (yn 87).cls ≠ "java/lang/invoke/MethodHandle" ∧ (yn 87).cls ≠ "java/lang/invoke/VarHandle" ∧ (parseMethodDescriptor (yn 87).desc).map (fun d => d.parameters.length) = some 1 := ⟨by decide +kernel, by decide +kernel, by decide +kernel⟩
theorem pln_87 : plainFor (yn 87) = true := by decide +kernel
theorem npm_88 : (yn 88).cls ≠ "java/lang/invoke/MethodHandle" ∧ (yn 88).cls ≠ "java/lang/invoke/VarHandle" ∧ (parseMethodDescriptor (yn 88).desc).map (fun d => d.parameters.length) = some 0 := ⟨by decide +kernel, by decide +kernel, by decide +kernel⟩
theorem pln_88 : plainFor (yn 88) = true := by decide +kernel
theorem npm_89 : (yn 89).cls ≠ "java/lang/invoke/MethodHandle" ∧ (yn 89).cls ≠ "java/lang/invoke/VarHandle" ∧ (parseMethodDescriptor (yn 89).desc).map (fun d => d.parameters.length) = some 3 := ⟨by decide +kernel, by decide +kernel, by decide +kernel⟩
theorem pln_89 : plainFor (yn 89) = true := by decide +kernel
theorem npm_90 : (yn 90).cls ≠ "java/lang/invoke/MethodHandle" ∧ (yn 90).cls ≠ "java/lang/invoke/VarHandle" ∧ (parseMethodDescriptor (yn 90).desc).map (fun d => d.parameters.length) = some 0 := ⟨by decide +kernel, by decide +kernel, by decide +kernel⟩
theorem pln_90 : plainFor (yn 90) = true := by decide +kernel
theorem npm_91 : (yn 91).cls ≠ "java/lang/invoke/MethodHandle" ∧ (yn 91).cls ≠ "java/lang/invoke/VarHandle" ∧ (parseMethodDescriptor (yn 91).desc).map (fun d => d.parameters.length) = some 2 := ⟨by decide +kernel, by decide +kernel, by decide +kernel⟩
theorem pln_91 : plainFor (yn 91) = true := by decide +kernel
theorem npm_92 : (yn 92).cls ≠ "java/lang/invoke/MethodHandle" ∧ (yn 92).cls ≠ "java/lang/invoke/VarHandle" ∧ (parseMethodDescriptor (yn 92).desc).map (fun d => d.parameters.length) = some 2 := ⟨by decide +kernel, by decide +kernel, by decide +kernel⟩
theorem pln_92 : plainFor (yn 92) = true := by decide +kernel
theorem npm_93 : (yn 93).cls ≠ "java/lang/invoke/MethodHandle" ∧ (yn 93).cls ≠ "java/lang/invoke/VarHandle" ∧ (parseMethodDescriptor (yn 93).desc).map (fun d => d.parameters.length) = some 3 := ⟨by decide +kernel, by decide +kernel, by decide +kernel⟩
theorem pln_93 : plainFor (yn 93) = true := by decide +kernel
theorem npm_94 : (yn 94).cls ≠ "java/lang/invoke/MethodHandle" ∧ (yn 94).cls ≠ "java/lang/invoke/VarHandle" ∧ (parseMethodDescriptor (yn 94).desc).map (fun d => d.parameters.length) = some 4 := ⟨by decide +kernel, by decide +kernel, by decide +kernel⟩
theorem pln_94 : plainFor (yn 94) = true := by decide +kernel
theorem npm_95 : (yn 95).cls ≠ "java/lang/invoke/MethodHandle" ∧ (yn 95).cls ≠ "java/lang/invoke/VarHandle" ∧ (parseMethodDescriptor (yn 95).desc).map (fun d => d.parameters.length) = some 1 := ⟨by decide +kernel, by decide +kernel, by decide +kernel⟩
theorem pln_95 : plainFor (yn 95) = true := by decide +kernel
theorem npm_96 : (yn 96).cls ≠ "java/lang/invoke/MethodHandle" ∧ (yn 96).cls ≠ "java/lang/invoke/VarHandle" ∧ (parseMethodDescriptor (yn 96).desc).map (fun d => d.parameters.length) = some 1 := ⟨by decide +kernel, by decide +kernel, by decide +kernel⟩
theorem pln_96 : plainFor (yn 96) = true := by decide +kernel
theorem npm_97 : (yn 97).cls ≠ "java/lang/invoke/MethodHandle" ∧ (yn 97).cls ≠ "java/lang/invoke/VarHandle" ∧ (parseMethodDescriptor (yn 97).desc).map (fun d => d.parameters.length) = some 4 := ⟨by decide +kernel, by decide +kernel, by decide +kernel⟩
theorem pln_97 : plainFor (yn 97) = true := by decide +kernel
theorem npm_98 : (yn 98).cls ≠ "java/lang/invoke/MethodHandle" ∧ (yn 98).cls ≠ "java/lang/invoke/VarHandle" ∧ (parseMethodDescriptor (yn 98).desc).map (fun d => d.parameters.length) = some 2 := ⟨by decide +kernel, by decide +kernel, by decide +kernel⟩
theorem pln_98 : plainFor (yn 98) = true := by decide +kernel
theorem npm_99 : (yn 99).cls ≠ "java/lang/invoke/MethodHandle" ∧ (yn 99).cls ≠ "java/lang/invoke/VarHandle" ∧ (parseMethodDescriptor (yn 99).desc).map (fun d => d.parameters.length) = some 1 := ⟨by decide +kernel, by decide +kernel, by decide +kernel⟩
theorem pln_99 : plainFor (yn 99) = true := by decide +kernel
theorem npm_101 : (yn 101).cls ≠ "java/lang/invoke/MethodHandle" ∧ (yn 101).cls ≠ "java/lang/invoke/VarHandle" ∧ (parseMethodDescriptor (yn 101).desc).map (fun d => d.parameters.length) = some 4 := ⟨by decide +kernel, by decide +kernel, by decide +kernel⟩
theorem pln_101 : plainFor (yn 101) = true := by decide +kernel
theorem npm_102 : (yn 102).cls ≠ "java/lang/invoke/MethodHandle" ∧ (yn 102).cls ≠ "java/lang/invoke/VarHandle" ∧ (parseMethodDescriptor (yn 102).desc).map (fun d => d.parameters.length) = some 1 := ⟨by decide +kernel, by decide +kernel, by decide +kernel⟩
theorem pln_102 : plainFor (yn 102) = true := by decide +kernel
theorem npm_103 : (yn 103).cls ≠ "java/lang/invoke/MethodHandle" ∧ (yn 103).cls ≠ "java/lang/invoke/VarHandle" ∧ (parseMethodDescriptor (yn 103).desc).map (fun d => d.parameters.length) = some 3 := ⟨by decide +kernel, by decide +kernel, by decide +kernel⟩
theorem pln_103 : plainFor (yn 103) = true := by decide +kernel
theorem npm_104 : (yn 104).cls ≠ "java/lang/invoke/MethodHandle" ∧ (yn 104).cls ≠ "java/lang/invoke/VarHandle" ∧ (parseMethodDescriptor (yn 104).desc).map (fun d => d.parameters.length) = some 2 := ⟨by decide +kernel, by decide +kernel, by decide +kernel⟩
theorem pln_104 : plainFor (yn 104) = true := by decide +kernel
theorem npm_105 : (yn 105).cls ≠ "java/lang/invoke/MethodHandle" ∧ (yn 105).cls ≠ "java/lang/invoke/VarHandle" ∧ (parseMethodDescriptor (yn 105).desc).map (fun d => d.parameters.length) = some 1 := ⟨by decide +kernel, by decide +kernel, by decide +kernel⟩
theorem pln_105 : plainFor (yn 105) = true := by decide +kernel
theorem npm_106 : (yn 106).cls ≠ "java/lang/invoke/MethodHandle" ∧ (yn 106).cls ≠ "java/lang/invoke/VarHandle" ∧ (parseMethodDescriptor (yn 106).desc).map (fun d => d.parameters.length) = some 0 := ⟨by decide +kernel, by decide +kernel, by decide +kernel⟩
theorem pln_106 : plainFor (yn 106) = true := by decide +kernel
theorem npm_107 : (yn 107).cls ≠ "java/lang/invoke/MethodHandle" ∧ (yn 107).cls ≠ "java/lang/invoke/VarHandle" ∧ (parseMethodDescriptor (yn 107).desc).map (fun d => d.parameters.length) = some 4 := ⟨by decide +kernel, by decide +kernel, by decide +kernel⟩
theorem pln_107 : plainFor (yn 107) = true := by decide +kernel
theorem npm_108 : (yn 108).cls ≠ "java/lang/invoke/MethodHandle" ∧ (yn 108).cls ≠ "java/lang/invoke/VarHandle" ∧ (parseMethodDescriptor (yn 108).desc).map (fun d => d.parameters.length) = some 4 := ⟨by decide +kernel, by decide +kernel, by decide +kernel⟩
theorem pln_108 : plainFor (yn 108) = true := by decide +kernel
theorem npm_109 : (yn 109).cls ≠ "java/lang/invoke/MethodHandle" ∧ (yn 109).cls ≠ "java/lang/invoke/VarHandle" ∧ (parseMethodDescriptor (yn 109).desc).map (fun d => d.parameters.length) = some 4 := ⟨by decide +kernel, by decide +kernel, by decide +kernel⟩
theorem pln_109 : plainFor (yn 109) = true := by decide +kernel
theorem npm_110 : (yn 110).cls ≠ "java/lang/invoke/MethodHandle" ∧ (yn 110).cls ≠ "java/lang/invoke/VarHandle" ∧ (parseMethodDescriptor (yn 110).desc).map (fun d => d.parameters.length) = some 1 := ⟨by decide +kernel, by decide +kernel, by decide +kernel⟩
theorem pln_110 : plainFor (yn 110) = true := by decide +kernel
theorem npm_111 : (yn 111).cls ≠ "java/lang/invoke/MethodHandle" ∧ (yn 111).cls ≠ "java/lang/invoke/VarHandle" ∧ (parseMethodDescriptor (yn 111).desc).map (fun d => d.parameters.length) = some 1 := ⟨by decide +kernel, by decide +kernel, by decide +kernel⟩
theorem pln_111 : plainFor (yn 111) = true := by decide +kernel
theorem npm_112 : (yn 112).cls ≠ "java/lang/invoke/MethodHandle" ∧ (yn 112).cls ≠ "java/lang/invoke/VarHandle" ∧ (parseMethodDescriptor (yn 112).desc).map (fun d => d.parameters.length) = some 2 := ⟨by decide +kernel, by decide +kernel, by decide +kernel⟩
theorem pln_112 : plainFor (yn 112) = true := by decide +kernel
theorem npm_113 : (yn 113).cls ≠ "java/lang/invoke/MethodHandle" ∧ (yn 113).cls ≠ "java/lang/invoke/VarHandle" ∧ (parseMethodDescriptor (yn 113).desc).map (fun d => d.parameters.length) = some 2 := ⟨by decide +kernel, by decide +kernel, by decide +kernel⟩
theorem pln_113 : plainFor (yn 113) = true := by decide +kernel
theorem npm_114 : (yn 114).cls ≠ "java/lang/invoke/MethodHandle" ∧ (yn 114).cls ≠ "java/lang/invoke/VarHandle" ∧ (parseMethodDescriptor (yn 114).desc).map (fun d => d.parameters.length) = some 1 := ⟨by decide +kernel, by decide +kernel, by decide +kernel⟩
theorem pln_114 : plainFor (yn 114) = true := by decide +kernel
theorem npm_115 : (yn 115).cls ≠ "java/lang/invoke/MethodHandle" ∧ (yn 115).cls ≠ "java/lang/invoke/VarHandle" ∧ (parseMethodDescriptor (yn 115).desc).map (fun d => d.parameters.length) = some 2 := ⟨by decide +kernel, by decide +kernel, by decide +kernel⟩
theorem pln_115 : plainFor (yn 115) = true := by decide +kernel
theorem npm_116 : (yn 116).cls ≠ "java/lang/invoke/MethodHandle" ∧ (yn 116).cls ≠ "java/lang/invoke/VarHandle" ∧ (parseMethodDescriptor (yn 116).desc).map (fun d => d.parameters.length) = some 0 := ⟨by decide +kernel, by decide +kernel, by decide +kernel⟩
theorem pln_116 : plainFor (yn 116) = true := by decide +kernel
theorem npm_117 : (yn 117).cls ≠ "java/lang/invoke/MethodHandle" ∧ (yn 117).cls ≠ "java/lang/invoke/VarHandle" ∧ (parseMethodDescriptor (yn 117).desc).map (fun d => d.parameters.length) = some 2 := ⟨by decide +kernel, by decide +kernel, by decide +kernel⟩
theorem pln_117 : plainFor (yn 117) = true := by decide +kernel
theorem npm_118 : (yn 118).cls ≠ "java/lang/invoke/MethodHandle" ∧ (yn 118).cls ≠ "java/lang/invoke/VarHandle" ∧ (parseMethodDescriptor (yn 118).desc).map (fun d => d.parameters.length) = some 1 := ⟨by decide +kernel, by decide +kernel, by decide +kernel⟩
theorem pln_118 : plainFor (yn 118) = true := by decide +kernel
theorem npm_119 : (yn 119).cls ≠ "java/lang/invoke/MethodHandle" ∧ (yn 119).cls ≠ "java/lang/invoke/VarHandle" ∧ (parseMethodDescriptor (yn 119).desc).map (fun d => d.parameters.length) = some 0 := ⟨by decide +kernel, by decide +kernel, by decide +kernel⟩
theorem pln_119 : plainFor (yn 119) = true := by decide +kernel
theorem npm_120 : (yn 120).cls ≠ "java/lang/invoke/MethodHandle" ∧ (yn 120).cls ≠ "java/lang/invoke/VarHandle" ∧ (parseMethodDescriptor (yn 120).desc).map (fun d => d.parameters.length) = some 0 := ⟨by decide +kernel, by decide +kernel, by decide +kernel⟩
theorem pln_120 : plainFor (yn 120) = true := by decide +kernel
theorem npm_121 : (yn 121).cls ≠ "java/lang/invoke/MethodHandle" ∧ (yn 121).cls ≠ "java/lang/invoke/VarHandle" ∧ (parseMethodDescriptor (yn 121).desc).map (fun d => d.parameters.length) = some 3 := ⟨by decide +kernel, by decide +kernel, by decide +kernel⟩
theorem pln_121 : plainFor (yn 121) = true := by decide +kernel
theorem npm_122 : (yn 122).cls ≠ "java/lang/invoke/MethodHandle" ∧ (yn 122).cls ≠ "java/lang/invoke/VarHandle" ∧ (parseMethodDescriptor (yn 122).desc).map (fun d => d.parameters.length) = some 2 := ⟨by decide +kernel, by decide +kernel, by decide +kernel⟩
theorem pln_122 : plainFor (yn 122) = true := by decide +kernel
theorem npm_123 : (yn 123).cls ≠ "java/lang/invoke/MethodHandle" ∧ (yn 123).cls ≠ "java/lang/invoke/VarHandle" ∧ (parseMethodDescriptor (yn 123).desc).map (fun d => d.parameters.length) = some 1 := ⟨by decide +kernel, by decide +kernel, by decide +kernel⟩
theorem pln_123 : plainFor (yn 123) = true := by decide +kernel
theorem npm_124 : (yn 124).cls ≠ "java/lang/invoke/MethodHandle" ∧ (yn 124).cls ≠ "java/lang/invoke/VarHandle" ∧ (parseMethodDescriptor (yn 124).desc).map (fun d => d.parameters.length) = some 4 := ⟨by decide +kernel, by decide +kernel, by decide +kernel⟩
theorem pln_124 : plainFor (yn 124) = true := by decide +kernel
theorem npm_125 : (yn 125).cls ≠ "java/lang/invoke/MethodHandle" ∧ (yn 125).cls ≠ "java/lang/invoke/VarHandle" ∧ (parseMethodDescriptor (yn 125).desc).map (fun d => d.parameters.length) = some 1 := ⟨by decide +kernel, by decide +kernel, by decide +kernel⟩
theorem pln_125 : plainFor (yn 125) = true := by decide +kernel
theorem npm_126 : (yn 126).cls ≠ "java/lang/invoke/MethodHandle" ∧ (yn 126).cls ≠ "java/lang/invoke/VarHandle" ∧ (parseMethodDescriptor (yn 126).desc).map (fun d => d.parameters.length) = some 0 := ⟨by decide +kernel, by decide +kernel, by decide +kernel⟩
theorem pln_126 : plainFor (yn 126) = true := by decide +kernel
theorem npm_127 : (yn 127).cls ≠ "java/lang/invoke/MethodHandle" ∧ (yn 127).cls ≠ "java/lang/invoke/VarHandle" ∧ (parseMethodDescriptor (yn 127).desc).map (fun d => d.parameters.length) = some 0 := ⟨by decide +kernel, by decide +kernel, by decide +kernel⟩
theorem pln_127 : plainFor (yn 127) = true := by decide +kernel
theorem npm_128 : (yn 128).cls ≠ "java/lang/invoke/MethodHandle" ∧ (yn 128).cls ≠ "java/lang/invoke/VarHandle" ∧ (parseMethodDescriptor (yn 128).desc).map (fun d => d.parameters.length) = some 0 := ⟨by decide +kernel, by decide +kernel, by decide +kernel⟩
theorem pln_128 : plainFor (yn 128) = true := by decide +kernel
theorem npm_129 : (yn 129).cls ≠ "java/lang/invoke/MethodHandle" ∧ (yn 129).cls ≠ "java/lang/invoke/VarHandle" ∧ (parseMethodDescriptor (yn 129).desc).map (fun d => d.parameters.length) = some 7 := ⟨by decide +kernel, by decide +kernel, by decide +kernel⟩
theorem pln_129 : plainFor (yn 129) = true := by decide +kernel
theorem npm_130 : (yn 130).cls ≠ "java/lang/invoke/MethodHandle" ∧ (yn 130).cls ≠ "java/lang/invoke/VarHandle" ∧ (parseMethodDescriptor (yn 130).desc).map (fun d => d.parameters.length) = some 3 := ⟨by decide +kernel, by decide +kernel, by decide +kernel⟩
theorem pln_130 : plainFor (yn 130) = true := by decide +kernel
theorem npm_131 : (yn 131).cls ≠ "java/lang/invoke/MethodHandle" ∧ (yn 131).cls ≠ "java/lang/invoke/VarHandle" ∧ (parseMethodDescriptor (yn 131).desc).map (fun d => d.parameters.length) = some 2 := ⟨by decide +kernel, by decide +kernel, by decide +kernel⟩
theorem pln_131 : plainFor (yn 131) = true := by decide +kernel
theorem npm_132 : (yn 132).cls ≠ "java/lang/invoke/MethodHandle" ∧ (yn 132).cls ≠ "java/lang/invoke/VarHandle" ∧ (parseMethodDescriptor (yn 132).desc).map (fun d => d.parameters.length) = some 1 := ⟨by decide +kernel, by decide +kernel, by decide +kernel⟩
theorem pln_132 : plainFor (yn 132) = true := by decide +kernel
theorem npm_133 : (yn 133).cls ≠ "java/lang/invoke/MethodHandle" ∧ (yn 133).cls ≠ "java/lang/invoke/VarHandle" ∧ (parseMethodDescriptor (yn 133).desc).map (fun d => d.parameters.length) = some 4 := ⟨by decide +kernel, by decide +kernel, by decide +kernel⟩
theorem pln_133 : plainFor (yn 133) = true := by decide +kernel
theorem npm_134 : (yn 134).cls ≠ "java/lang/invoke/MethodHandle" ∧ (yn 134).cls ≠ "java/lang/invoke/VarHandle" ∧ (parseMethodDescriptor (yn 134).desc).map (fun d => d.parameters.length) = some 1 := ⟨by decide +kernel, by decide +kernel, by decide +kernel⟩
theorem pln_134 : plainFor (yn 134) = true := by decide +kernel
theorem npm_135 : (yn 135).cls ≠ "java/lang/invoke/MethodHandle" ∧ (yn 135).cls ≠ "java/lang/invoke/VarHandle" ∧ (parseMethodDescriptor (yn 135).desc).map (fun d => d.parameters.length) = some 2 := ⟨by decide +kernel, by decide +kernel, by decide +kernel⟩
theorem pln_135 : plainFor (yn 135) = true := by decide +kernel
theorem npm_136 : (yn 136).cls ≠ "java/lang/invoke/MethodHandle" ∧ (yn 136).cls ≠ "java/lang/invoke/VarHandle" ∧ (parseMethodDescriptor (yn 136).desc).map (fun d => d.parameters.length) = some 2 := ⟨by decide +kernel, by decide +kernel, by decide +kernel⟩
theorem pln_136 : plainFor (yn 136) = true := by decide +kernel
theorem npm_137 : (yn 137).cls ≠ "java/lang/invoke/MethodHandle" ∧ (yn 137).cls ≠ "java/lang/invoke/VarHandle" ∧ (parseMethodDescriptor (yn 137).desc).map (fun d => d.parameters.length) = some 1 := ⟨by decide +kernel, by decide +kernel, by decide +kernel⟩
theorem pln_137 : plainFor (yn 137) = true := by decide +kernel
theorem npm_138 : (yn 138).cls ≠ "java/lang/invoke/MethodHandle" ∧ (yn 138).cls ≠ "java/lang/invoke/VarHandle" ∧ (parseMethodDescriptor (yn 138).desc).map (fun d => d.parameters.length) = some 2 := ⟨by decide +kernel, by decide +kernel, by decide +kernel⟩
theorem pln_138 : plainFor (yn 138) = true := by decide +kernel
theorem npm_139 : (yn 139).cls ≠ "java/lang/invoke/MethodHandle" ∧ (yn 139).cls ≠ "java/lang/invoke/VarHandle" ∧ (parseMethodDescriptor (yn 139).desc).map (fun d => d.parameters.length) = some 1 := ⟨by decide +kernel, by decide +kernel, by decide +kernel⟩
theorem pln_139 : plainFor (yn 139) = true := by decide +kernel
theorem npm_140 : (yn 140).cls ≠ "java/lang/invoke/MethodHandle" ∧ (yn 140).cls ≠ "java/lang/invoke/VarHandle" ∧ (parseMethodDescriptor (yn 140).desc).map (fun d => d.parameters.length) = some 2 := ⟨by decide +kernel, by decide +kernel, by decide +kernel⟩
theorem pln_140 : plainFor (yn 140) = true := by decide +kernel
theorem npm_141 : (yn 141).cls ≠ "java/lang/invoke/MethodHandle" ∧ (yn 141).cls ≠ "java/lang/invoke/VarHandle" ∧ (parseMethodDescriptor (yn 141).desc).map (fun d => d.parameters.length) = some 2 := ⟨by decide +kernel, by decide +kernel, by decide +kernel⟩
theorem pln_141 : plainFor (yn 141) = true := by decide +kernel
theorem npm_142 : (yn 142).cls ≠ "java/lang/invoke/MethodHandle" ∧ (yn 142).cls ≠ "java/lang/invoke/VarHandle" ∧ (parseMethodDescriptor (yn 142).desc).map (fun d => d.parameters.length) = some 3 := ⟨by decide +kernel, by decide +kernel, by decide +kernel⟩
theorem pln_142 : plainFor (yn 142) = true := by decide +kernel
theorem npm_143 : (yn 143).cls ≠ "java/lang/invoke/MethodHandle" ∧ (yn 143).cls ≠ "java/lang/invoke/VarHandle" ∧ (parseMethodDescriptor (yn 143).desc).map (fun d => d.parameters.length) = some 1 := ⟨by decide +kernel, by decide +kernel, by decide +kernel⟩
theorem pln_143 : plainFor (yn 143) = true := by decide +kernel
theorem npm_144 : (yn 144).cls ≠ "java/lang/invoke/MethodHandle" ∧ (yn 144).cls ≠ "java/lang/invoke/VarHandle" ∧ (parseMethodDescriptor (yn 144).desc).map (fun d => d.parameters.length) = some 3 := ⟨by decide +kernel, by decide +kernel, by decide +kernel⟩
theorem pln_144 : plainFor (yn 144) = true := by decide +kernel
theorem npm_145 : (yn 145).cls ≠ "java/lang/invoke/MethodHandle" ∧ (yn 145).cls ≠ "java/lang/invoke/VarHandle" ∧ (parseMethodDescriptor (yn 145).desc).map (fun d => d.parameters.length) = some 3 := ⟨by decide +kernel, by decide +kernel, by decide +kernel⟩
theorem pln_145 : plainFor (yn 145) = true := by decide +kernel
theorem npm_146 : (yn 146).cls ≠ "java/lang/invoke/MethodHandle" ∧ (yn 146).cls ≠ "java/lang/invoke/VarHandle" ∧ (parseMethodDescriptor (yn 146).desc).map (fun d => d.parameters.length) = some 1 := ⟨by decide +kernel, by decide +kernel, by decide +kernel⟩
theorem pln_146 : plainFor (yn 146) = true := by decide +kernel
theorem npm_147 : (yn 147).cls ≠ "java/lang/invoke/MethodHandle" ∧ (yn 147).cls ≠ "java/lang/invoke/VarHandle" ∧ (parseMethodDescriptor (yn 147).desc).map (fun d => d.parameters.length) = some 1 := ⟨by decide +kernel, by decide +kernel, by decide +kernel⟩
theorem pln_147 : plainFor (yn 147) = true := by decide +kernel
theorem npm_148 : (yn 148).cls ≠ "java/lang/invoke/MethodHandle" ∧ (yn 148).cls ≠ "java/lang/invoke/VarHandle" ∧ (parseMethodDescriptor (yn 148).desc).map (fun d => d.parameters.length) = some 2 := ⟨by decide +kernel, by decide +kernel, by decide +kernel⟩
theorem pln_148 : plainFor (yn 148) = true := by decide +kernel
theorem npm_149 : (yn 149).cls ≠ "java/lang/invoke/MethodHandle" ∧ (yn 149).cls ≠ "java/lang/invoke/VarHandle" ∧ (parseMethodDescriptor (yn 149).desc).map (fun d => d.parameters.length) = some 2 := ⟨by decide +kernel, by decide +kernel, by decide +kernel⟩
theorem pln_149 : plainFor (yn 149) = true := by decide +kernel
theorem npm_150 : (yn 150).cls ≠ "java/lang/invoke/MethodHandle" ∧ (yn 150).cls ≠ "java/lang/invoke/VarHandle" ∧ (parseMethodDescriptor (yn 150).desc).map (fun d => d.parameters.length) = some 1 := ⟨by decide +kernel, by decide +kernel, by decide +kernel⟩
theorem pln_150 : plainFor (yn 150) = true := by decide +kernel
theorem npm_151 : (yn 151).cls ≠ "java/lang/invoke/MethodHandle" ∧ (yn 151).cls ≠ "java/lang/invoke/VarHandle" ∧ (parseMethodDescriptor (yn 151).desc).map (fun d => d.parameters.length) = some 2 := ⟨by decide +kernel, by decide +kernel, by decide +kernel⟩
theorem pln_151 : plainFor (yn 151) = true := by decide +kernel
theorem npm_152 : (yn 152).cls ≠ "java/lang/invoke/MethodHandle" ∧ (yn 152).cls ≠ "java/lang/invoke/VarHandle" ∧ (parseMethodDescriptor (yn 152).desc).map (fun d => d.parameters.length) = some 2 := ⟨by decide +kernel, by decide +kernel, by decide +kernel⟩
theorem pln_152 : plainFor (yn 152) = true := by decide +kernel
theorem npm_153 : (yn 153).cls ≠ "java/lang/invoke/MethodHandle" ∧ (yn 153).cls ≠ "java/lang/invoke/VarHandle" ∧ (parseMethodDescriptor (yn 153).desc).map (fun d => d.parameters.length) = some 0 := ⟨by decide +kernel, by decide +kernel, by decide +kernel⟩
theorem pln_153 : plainFor (yn 153) = true := by decide +kernel
theorem npm_154 : (yn 154).cls ≠ "java/lang/invoke/MethodHandle" ∧ (yn 154).cls ≠ "java/lang/invoke/VarHandle" ∧ (parseMethodDescriptor (yn 154).desc).map (fun d => d.parameters.length) = some 2 := ⟨by decide +kernel, by decide +kernel, by decide +kernel⟩
theorem pln_154 : plainFor (yn 154) = true := by decide +kernel
theorem npm_155 : (yn 155).cls ≠ "java/lang/invoke/MethodHandle" ∧ (yn 155).cls ≠ "java/lang/invoke/VarHandle" ∧ (parseMethodDescriptor (yn 155).desc).map (fun d => d.parameters.length) = some 1 := ⟨by decide +kernel, by decide +kernel, by decide +kernel⟩
theorem pln_155 : plainFor (yn 155) = true := by decide +kernel
theorem npm_156 : (yn 156).cls ≠ "java/lang/invoke/MethodHandle" ∧ (yn 156).cls ≠ "java/lang/invoke/VarHandle" ∧ (parseMethodDescriptor (yn 156).desc).map (fun d => d.parameters.length) = some 2 := ⟨by decide +kernel, by decide +kernel, by decide +kernel⟩
theorem pln_156 : plainFor (yn 156) = true := by decide +kernel
theorem npm_157 : (yn 157).cls ≠ "java/lang/invoke/MethodHandle" ∧ (yn 157).cls ≠ "java/lang/invoke/VarHandle" ∧ (parseMethodDescriptor (yn 157).desc).map (fun d => d.parameters.length) = some 1 := ⟨by decide +kernel, by decide +kernel, by decide +kernel⟩
theorem pln_157 : plainFor (yn 157) = true := by decide +kernel
theorem npm_158 : (yn 158).cls ≠ "java/lang/invoke/MethodHandle" ∧ (yn 158).cls ≠ "java/lang/invoke/VarHandle" ∧ (parseMethodDescriptor (yn 158).desc).map (fun d => d.parameters.length) = some 3 := ⟨by decide +kernel, by decide +kernel, by decide +kernel⟩
theorem pln_158 : plainFor (yn 158) = true := by decide +kernel
theorem npm_159 : (yn 159).cls ≠ "java/lang/invoke/MethodHandle" ∧ (yn 159).cls ≠ "java/lang/invoke/VarHandle" ∧ (parseMethodDescriptor (yn 159).desc).map (fun d => d.parameters.length) = some 1 := ⟨by decide +kernel, by decide +kernel, by decide +kernel⟩
theorem pln_159 : plainFor (yn 159) = true := by decide +kernel
theorem npm_160 : (yn 160).cls ≠ "java/lang/invoke/MethodHandle" ∧ (yn 160).cls ≠ "java/lang/invoke/VarHandle" ∧ (parseMethodDescriptor (yn 160).desc).map (fun d => d.parameters.length) = some 1 := ⟨by decide +kernel, by decide +kernel, by decide +kernel⟩
theorem pln_160 : plainFor (yn 160) = true := by decide +kernel
theorem npm_161 : (yn 161).cls ≠ "java/lang/invoke/MethodHandle" ∧ (yn 161).cls ≠ "java/lang/invoke/VarHandle" ∧ (parseMethodDescriptor (yn 161).desc).map (fun d => d.parameters.length) = some 4 := ⟨by decide +kernel, by decide +kernel, by decide +kernel⟩
theorem pln_161 : plainFor (yn 161) = true := by decide +kernel
theorem npm_162 : (yn 162).cls ≠ "java/lang/invoke/MethodHandle" ∧ (yn 162).cls ≠ "java/lang/invoke/VarHandle" ∧ (parseMethodDescriptor (yn 162).desc).map (fun d => d.parameters.length) = some 1 := ⟨by decide +kernel, by decide +kernel, by decide +kernel⟩
theorem pln_162 : plainFor (yn 162) = true := by decide +kernel
theorem npm_163 : (yn 163).cls ≠ "java/lang/invoke/MethodHandle" ∧ (yn 163).cls ≠ "java/lang/invoke/VarHandle" ∧ (parseMethodDescriptor (yn 163).desc).map (fun d => d.parameters.length) = some 4 := ⟨by decide +kernel, by decide +kernel, by decide +kernel⟩
theorem pln_163 : plainFor (yn 163) = true := by decide +kernel
theorem npm_164 : (yn 164).cls ≠ "java/lang/invoke/MethodHandle" ∧ (yn 164).cls ≠ "java/lang/invoke/VarHandle" ∧ (parseMethodDescriptor (yn 164).desc).map (fun d => d.parameters.length) = some 1 := ⟨by decide +kernel, by decide +kernel, by decide +kernel⟩
theorem pln_164 : plainFor (yn 164) = true := by decide +kernel
theorem npm_165 : (yn 165).cls ≠ "java/lang/invoke/MethodHandle" ∧ (yn 165).cls ≠ "java/lang/invoke/VarHandle" ∧ (parseMethodDescriptor (yn 165).desc).map (fun d => d.parameters.length) = some 4 := ⟨by decide +kernel, by decide +kernel, by decide +kernel⟩
theorem pln_165 : plainFor (yn 165) = true := by decide +kernel
theorem npm_166 : (yn 166).cls ≠ "java/lang/invoke/MethodHandle" ∧ (yn 166).cls ≠ "java/lang/invoke/VarHandle" ∧ (parseMethodDescriptor (yn 166).desc).map (fun d => d.parameters.length) = some 2 := ⟨by decide +kernel, by decide +kernel, by decide +kernel⟩
theorem pln_166 : plainFor (yn 166) = true := by decide +kernel
theorem npm_167 : (yn 167).cls ≠ "java/lang/invoke/MethodHandle" ∧ (yn 167).cls ≠ "java/lang/invoke/VarHandle" ∧ (parseMethodDescriptor (yn 167).desc).map (fun d => d.parameters.length) = some 2 := ⟨by decide +kernel, by decide +kernel, by decide +kernel⟩
theorem pln_167 : plainFor (yn 167) = true := by decide +kernel
theorem npm_168 : (yn 168).cls ≠ "java/lang/invoke/MethodHandle" ∧ (yn 168).cls ≠ "java/lang/invoke/VarHandle" ∧ (parseMethodDescriptor (yn 168).desc).map (fun d => d.parameters.length) = some 4 := ⟨by decide +kernel, by decide +kernel, by decide +kernel⟩
theorem pln_168 : plainFor (yn 168) = true := by decide +kernel
theorem npm_169 : (yn 169).cls ≠ "java/lang/invoke/MethodHandle" ∧ (yn 169).cls ≠ "java/lang/invoke/VarHandle" ∧ (parseMethodDescriptor (yn 169).desc).map (fun d => d.parameters.length) = some 2 := ⟨by decide +kernel, by decide +kernel, by decide +kernel⟩
theorem pln_169 : plainFor (yn 169) = true := by decide +kernel
theorem npm_170 : (yn 170).cls ≠ "java/lang/invoke/MethodHandle" ∧ (yn 170).cls ≠ "java/lang/invoke/VarHandle" ∧ (parseMethodDescriptor (yn 170).desc).map (fun d => d.parameters.length) = some 4 := ⟨by decide +kernel, by decide +kernel, by decide +kernel⟩
theorem pln_170 : plainFor (yn 170) = true := by decide +kernel
theorem npm_171 : (yn 171).cls ≠ "java/lang/invoke/MethodHandle" ∧ (yn 171).cls ≠ "java/lang/invoke/VarHandle" ∧ (parseMethodDescriptor (yn 171).desc).map (fun d => d.parameters.length) = some 1 := ⟨by decide +kernel, by decide +kernel, by decide +kernel⟩
theorem pln_171 : plainFor (yn 171) = true := by decide +kernel
theorem npm_172 : (yn 172).cls ≠ "java/lang/invoke/MethodHandle" ∧ (yn 172).cls ≠ "java/lang/invoke/VarHandle" ∧ (parseMethodDescriptor (yn 172).desc).map (fun d => d.parameters.length) = some 1 := ⟨by decide +kernel, by decide +kernel, by decide +kernel⟩
theorem pln_172 : plainFor (yn 172) = true := by decide +kernel
theorem npm_173 : (yn 173).cls ≠ "java/lang/invoke/MethodHandle" ∧ (yn 173).cls ≠ "java/lang/invoke/VarHandle" ∧ (parseMethodDescriptor (yn 173).desc).map (fun d => d.parameters.length) = some 4 := ⟨by decide +kernel, by decide +kernel, by decide +kernel⟩
theorem pln_173 : plainFor (yn 173) = true := by decide +kernel
theorem npm_174 : (yn 174).cls ≠ "java/lang/invoke/MethodHandle" ∧ (yn 174).cls ≠ "java/lang/invoke/VarHandle" ∧ (parseMethodDescriptor (yn 174).desc).map (fun d => d.parameters.length) = some 4 := ⟨by decide +kernel, by decide +kernel, by decide +kernel⟩
theorem pln_174 : plainFor (yn 174) = true := by decide +kernel
theorem npm_175 : (yn 175).cls ≠ "java/lang/invoke/MethodHandle" ∧ (yn 175).cls ≠ "java/lang/invoke/VarHandle" ∧ (parseMethodDescriptor (yn 175).desc).map (fun d => d.parameters.length) = some 2 := ⟨by decide +kernel, by decide +kernel, by decide +kernel⟩
theorem pln_175 : plainFor (yn 175) = true := by decide +kernel
theorem npm_176 : (yn 176).cls ≠ "java/lang/invoke/MethodHandle" ∧ (yn 176).cls ≠ "java/lang/invoke/VarHandle" ∧ (parseMethodDescriptor (yn 176).desc).map (fun d => d.parameters.length) = some 2 := ⟨by decide +kernel, by decide +kernel, by decide +kernel⟩
theorem pln_176 : plainFor (yn 176) = true := by decide +kernel
theorem npm_177 : (yn 177).cls ≠ "java/lang/invoke/MethodHandle" ∧ (yn 177).cls ≠ "java/lang/invoke/VarHandle" ∧ (parseMethodDescriptor (yn 177).desc).map (fun d => d.parameters.length) = some 0 := ⟨by decide +kernel, by decide +kernel, by decide +kernel⟩
theorem pln_177 : plainFor (yn 177) = true := by decide +kernel
theorem npm_178 : (yn 178).cls ≠ "java/lang/invoke/MethodHandle" ∧ (yn 178).cls ≠ "java/lang/invoke/VarHandle" ∧ (parseMethodDescriptor (yn 178).desc).map (fun d => d.parameters.length) = some 1 := ⟨by decide +kernel, by decide +kernel, by decide +kernel⟩
theorem pln_178 : plainFor (yn 178) = true := by decide +kernel
theorem npm_179 : (yn 179).cls ≠ "java/lang/invoke/MethodHandle" ∧ (yn 179).cls ≠ "java/lang/invoke/VarHandle" ∧ (parseMethodDescriptor (yn 179).desc).map (fun d => d.parameters.length) = some 4 := ⟨by decide +kernel, by decide +kernel, by decide +kernel⟩
theorem pln_179 : plainFor (yn 179) = true := by decide +kernel
theorem npm_180 : (yn 180).cls ≠ "java/lang/invoke/MethodHandle" ∧ (yn 180).cls ≠ "java/lang/invoke/VarHandle" ∧ (parseMethodDescriptor (yn 180).desc).map (fun d => d.parameters.length) = some 1 := ⟨by decide +kernel, by decide +kernel, by decide +kernel⟩
theorem pln_180 : plainFor (yn 180) = true := by decide +kernel
set_option maxRecDepth 100000 in
theorem wd_0 : Cond.methodLink "StepsAhead" 3 Lib.objectInit ∈ GT := GT_of 21 rfl rfl
set_option maxRecDepth 100000 in
theorem wd_1 : Cond.instanceMethod Lib.objectInit ∈ GT := GT_of 22 rfl rfl
set_option maxRecDepth 100000 in
theorem wd_2 : Cond.code Lib.objectInit ⟨#[0xb1]⟩ 1 none ∈ GT := GT_of 23 rfl rfl
set_option maxRecDepth 100000 in
theorem wd_3 : Cond.classLink "StepsAhead" 9 "StepsAhead$Routine" ∈ GT := GT_of 24 rfl rfl
set_option maxRecDepth 100000 in
theorem wd_4 : Cond.fieldLink "StepsAhead" 11 "StepsAhead" "routines" "[LStepsAhead$Routine;" ∈ GT := GT_of 188 rfl rfl
set_option maxRecDepth 100000 in
theorem wd_5 : Cond.fieldLink "StepsAhead" 15 "StepsAhead" "made" "I" ∈ GT := GT_of 189 rfl rfl
set_option maxRecDepth 100000 in
theorem wd_6 : Cond.arrayClass .int ∈ GT := GT_of 39 rfl rfl
set_option maxRecDepth 100000 in
theorem wd_7 : Cond.fieldLink "StepsAhead" 19 "StepsAhead" "firstExpression" "[I" ∈ GT := GT_of 190 rfl rfl
set_option maxRecDepth 100000 in
theorem wd_8 : Cond.fieldLink "StepsAhead" 23 "StepsAhead" "secondExpression" "[I" ∈ GT := GT_of 191 rfl rfl
set_option maxRecDepth 100000 in
theorem wd_9 : Cond.classLink "StepsAhead" 26 "StepsAhead$Trace" ∈ GT := GT_of 26 rfl rfl
set_option maxRecDepth 100000 in
theorem wd_10 : Cond.instantiable "StepsAhead$Trace" 2 ∈ GT := GT_of 27 rfl rfl
set_option maxRecDepth 100000 in
theorem wd_11 : Cond.initialized "StepsAhead$Trace" ∈ GT := GT_of 2 rfl rfl
set_option maxRecDepth 100000 in
theorem wd_12 : Cond.code (yn 2) (cod 2) (mxl 2) (rty 2) ∈ GT := GT_of 30 rfl rfl
set_option maxRecDepth 100000 in
theorem wd_13 : Cond.instanceMethod (yn 2) ∈ GT := GT_of 29 rfl rfl
set_option maxRecDepth 100000 in
theorem wd_14 : Cond.fieldLink "StepsAhead" 29 "StepsAhead" "left" "LStepsAhead$Trace;" ∈ GT := GT_of 192 rfl rfl
set_option maxRecDepth 100000 in
theorem wd_15 : Cond.classLink "StepsAhead" 33 "StepsAhead$Reckoner" ∈ GT := GT_of 40 rfl rfl
set_option maxRecDepth 100000 in
theorem wd_16 : Cond.instantiable "StepsAhead$Reckoner" 7 ∈ GT := GT_of 41 rfl rfl
set_option maxRecDepth 100000 in
theorem wd_17 : Cond.initialized "StepsAhead$Reckoner" ∈ GT := GT_of 3 rfl rfl
set_option maxRecDepth 100000 in
theorem wd_18 : Cond.code (yn 3) (cod 3) (mxl 3) (rty 3) ∈ GT := GT_of 44 rfl rfl
set_option maxRecDepth 100000 in
theorem wd_19 : Cond.instanceMethod (yn 3) ∈ GT := GT_of 43 rfl rfl
set_option maxRecDepth 100000 in
theorem wd_20 : Cond.fieldLink "StepsAhead" 36 "StepsAhead" "reckoner" "LStepsAhead$Reckoner;" ∈ GT := GT_of 193 rfl rfl
set_option maxRecDepth 100000 in
theorem wd_21 : Cond.classLink "StepsAhead" 40 "StepsAhead$Runner" ∈ GT := GT_of 103 rfl rfl
set_option maxRecDepth 100000 in
theorem wd_22 : Cond.instantiable "StepsAhead$Runner" 7 ∈ GT := GT_of 104 rfl rfl
set_option maxRecDepth 100000 in
theorem wd_23 : Cond.initialized "StepsAhead$Runner" ∈ GT := GT_of 6 rfl rfl
set_option maxRecDepth 100000 in
theorem wd_24 : Cond.code (yn 9) (cod 9) (mxl 9) (rty 9) ∈ GT := GT_of 107 rfl rfl
set_option maxRecDepth 100000 in
theorem wd_25 : Cond.instanceMethod (yn 9) ∈ GT := GT_of 106 rfl rfl
set_option maxRecDepth 100000 in
theorem wd_26 : Cond.fieldLink "StepsAhead" 43 "StepsAhead" "runner" "LStepsAhead$Runner;" ∈ GT := GT_of 194 rfl rfl
set_option maxRecDepth 100000 in
theorem wd_27 : Cond.instantiable "StepsAhead$Routine" 12 ∈ GT := GT_of 132 rfl rfl
set_option maxRecDepth 100000 in
theorem wd_28 : Cond.initialized "StepsAhead$Routine" ∈ GT := GT_of 7 rfl rfl
set_option maxRecDepth 100000 in
theorem wd_29 : Cond.code (yn 10) (cod 10) (mxl 10) (rty 10) ∈ GT := GT_of 135 rfl rfl
set_option maxRecDepth 100000 in
theorem wd_30 : Cond.methodLink "StepsAhead" 47 (yn 10) ∈ GT := GT_of 133 rfl rfl
set_option maxRecDepth 100000 in
theorem wd_31 : Cond.instanceMethod (yn 10) ∈ GT := GT_of 134 rfl rfl
set_option maxRecDepth 100000 in
theorem wd_32 : Cond.methodLink "StepsAhead$Trace" 3 Lib.objectInit ∈ GT := GT_of 31 rfl rfl
set_option maxRecDepth 100000 in
theorem wd_33 : Cond.fieldLink "StepsAhead$Trace" 9 "StepsAhead$Trace" "numbers" "[I" ∈ GT := GT_of 32 rfl rfl
set_option maxRecDepth 100000 in
theorem wd_34 : Cond.fieldLink "StepsAhead$Trace" 15 "StepsAhead$Trace" "length" "I" ∈ GT := GT_of 33 rfl rfl
set_option maxRecDepth 100000 in
theorem wd_35 : Cond.methodLink "StepsAhead$Reckoner" 3 Lib.objectInit ∈ GT := GT_of 45 rfl rfl
set_option maxRecDepth 100000 in
theorem wd_36 : Cond.classLink "StepsAhead$Reckoner" 9 "StepsAhead$Products" ∈ GT := GT_of 46 rfl rfl
set_option maxRecDepth 100000 in
theorem wd_37 : Cond.instantiable "StepsAhead$Products" 2 ∈ GT := GT_of 47 rfl rfl
set_option maxRecDepth 100000 in
theorem wd_38 : Cond.initialized "StepsAhead$Products" ∈ GT := GT_of 4 rfl rfl
set_option maxRecDepth 100000 in
theorem wd_39 : Cond.code (yn 4) (cod 4) (mxl 4) (rty 4) ∈ GT := GT_of 50 rfl rfl
set_option maxRecDepth 100000 in
theorem wd_40 : Cond.methodLink "StepsAhead$Reckoner" 11 (yn 4) ∈ GT := GT_of 48 rfl rfl
set_option maxRecDepth 100000 in
theorem wd_41 : Cond.instanceMethod (yn 4) ∈ GT := GT_of 49 rfl rfl
set_option maxRecDepth 100000 in
theorem wd_42 : Cond.fieldLink "StepsAhead$Reckoner" 12 "StepsAhead$Reckoner" "table" "LStepsAhead$Products;" ∈ GT := GT_of 80 rfl rfl
set_option maxRecDepth 100000 in
theorem wd_43 : Cond.classLink "StepsAhead$Reckoner" 18 ("[" ++ (FieldType.array .long).toString) ∈ GT := GT_of 78 rfl rfl
set_option maxRecDepth 100000 in
theorem wd_44 : Cond.arrayClass .long ∈ GT := GT_of 102 rfl rfl
set_option maxRecDepth 100000 in
theorem wd_45 : Cond.fieldLink "StepsAhead$Reckoner" 20 "StepsAhead$Reckoner" "rows" "[[J" ∈ GT := GT_of 81 rfl rfl
set_option maxRecDepth 100000 in
theorem wd_46 : Cond.fieldLink "StepsAhead$Reckoner" 23 "StepsAhead$Reckoner" "top" "I" ∈ GT := GT_of 82 rfl rfl
set_option maxRecDepth 100000 in
theorem wd_47 : Cond.fieldLink "StepsAhead$Reckoner" 27 "StepsAhead$Reckoner" "ofOp" "[J" ∈ GT := GT_of 83 rfl rfl
set_option maxRecDepth 100000 in
theorem wd_48 : Cond.fieldLink "StepsAhead$Reckoner" 31 "StepsAhead$Reckoner" "part" "[J" ∈ GT := GT_of 84 rfl rfl
set_option maxRecDepth 100000 in
theorem wd_49 : Cond.fieldLink "StepsAhead$Reckoner" 34 "StepsAhead$Reckoner" "side" "I" ∈ GT := GT_of 85 rfl rfl
set_option maxRecDepth 100000 in
theorem wd_50 : Cond.fieldLink "StepsAhead$Reckoner" 37 "StepsAhead$Reckoner" "full" "Z" ∈ GT := GT_of 86 rfl rfl
set_option maxRecDepth 100000 in
theorem wd_51 : Cond.methodLink "StepsAhead$Products" 3 Lib.objectInit ∈ GT := GT_of 51 rfl rfl
set_option maxRecDepth 100000 in
theorem wd_52 : Cond.classLink "StepsAhead$Products" 11 ("[" ++ (FieldType.array .int).toString) ∈ GT := GT_of 52 rfl rfl
set_option maxRecDepth 100000 in
theorem wd_53 : Cond.fieldLink "StepsAhead$Products" 13 "StepsAhead$Products" "times" "[[I" ∈ GT := GT_of 71 rfl rfl
set_option maxRecDepth 100000 in
theorem wd_54 : Cond.fieldLink "StepsAhead$Products" 16 "StepsAhead$Products" "lastVariable" "[I" ∈ GT := GT_of 72 rfl rfl
set_option maxRecDepth 100000 in
theorem wd_55 : Cond.code (yn 5) (cod 5) (mxl 5) (rty 5) ∈ GT := GT_of 56 rfl rfl
set_option maxRecDepth 100000 in
theorem wd_56 : Cond.initialized "java/util/Arrays" ∈ GT := GT_of 5 rfl rfl
set_option maxRecDepth 100000 in
theorem wd_57 : Cond.methodLink "StepsAhead$Products" 20 (yn 5) ∈ GT := GT_of 54 rfl rfl
set_option maxRecDepth 100000 in
theorem wd_58 : Cond.static (yn 5) ∈ GT := GT_of 55 rfl rfl
set_option maxRecDepth 100000 in
theorem wd_59 : Cond.fieldLink "StepsAhead$Products" 26 "StepsAhead$Products" "UP_TO" "[I" ∈ GT := GT_of 57 rfl rfl
set_option maxRecDepth 100000 in
theorem wd_60 : Cond.code (yn 6) (cod 6) (mxl 6) (rty 6) ∈ GT := GT_of 62 rfl rfl
set_option maxRecDepth 100000 in
theorem wd_61 : Cond.methodLink "StepsAhead$Products" 29 (yn 6) ∈ GT := GT_of 59 rfl rfl
set_option maxRecDepth 100000 in
theorem wd_62 : Cond.instanceMethod (yn 6) ∈ GT := GT_of 61 rfl rfl
set_option maxRecDepth 100000 in
theorem wd_63 : Cond.selects "StepsAhead$Products" (yn 6) (yn 6) ∈ GT := GT_sel 0 rfl rfl
set_option maxRecDepth 100000 in
theorem wd_64 : Cond.code (yn 7) (cod 7) (mxl 7) (rty 7) ∈ GT := GT_of 66 rfl rfl
set_option maxRecDepth 100000 in
theorem wd_65 : Cond.methodLink "StepsAhead$Products" 33 (yn 7) ∈ GT := GT_of 63 rfl rfl
set_option maxRecDepth 100000 in
theorem wd_66 : Cond.instanceMethod (yn 7) ∈ GT := GT_of 65 rfl rfl
set_option maxRecDepth 100000 in
theorem wd_67 : Cond.selects "StepsAhead$Products" (yn 7) (yn 7) ∈ GT := GT_sel 1 rfl rfl
set_option maxRecDepth 100000 in
theorem wd_68 : Cond.code (yn 8) (cod 8) (mxl 8) (rty 8) ∈ GT := GT_of 70 rfl rfl
set_option maxRecDepth 100000 in
theorem wd_69 : Cond.methodLink "StepsAhead$Products" 36 (yn 8) ∈ GT := GT_of 67 rfl rfl
set_option maxRecDepth 100000 in
theorem wd_70 : Cond.instanceMethod (yn 8) ∈ GT := GT_of 68 rfl rfl
set_option maxRecDepth 100000 in
theorem wd_71 : Cond.selects "StepsAhead$Products" (yn 8) (yn 8) ∈ GT := GT_of 69 rfl rfl
set_option maxRecDepth 100000 in
theorem wd_72 : Cond.methodLink "StepsAhead$Runner" 3 Lib.objectInit ∈ GT := GT_of 108 rfl rfl
set_option maxRecDepth 100000 in
theorem wd_73 : Cond.fieldLink "StepsAhead$Runner" 9 "StepsAhead$Runner" "lotNow" "I" ∈ GT := GT_of 109 rfl rfl
set_option maxRecDepth 100000 in
theorem wd_74 : Cond.fieldLink "StepsAhead$Runner" 15 "StepsAhead$Runner" "way" "I" ∈ GT := GT_of 111 rfl rfl
set_option maxRecDepth 100000 in
theorem wd_75 : Cond.fieldLink "StepsAhead$Runner" 18 "StepsAhead$Runner" "steps" "I" ∈ GT := GT_of 112 rfl rfl
set_option maxRecDepth 100000 in
theorem wd_76 : Cond.fieldLink "StepsAhead$Runner" 21 "StepsAhead$Runner" "comings" "I" ∈ GT := GT_of 113 rfl rfl
set_option maxRecDepth 100000 in
theorem wd_77 : Cond.fieldLink "StepsAhead$Runner" 24 "StepsAhead$Runner" "spent" "Z" ∈ GT := GT_of 114 rfl rfl
set_option maxRecDepth 100000 in
theorem wd_78 : Cond.fieldLink "StepsAhead$Runner" 28 "StepsAhead$Runner" "here" "LStepsAhead$Routine;" ∈ GT := GT_of 115 rfl rfl
set_option maxRecDepth 100000 in
theorem wd_79 : Cond.fieldLink "StepsAhead$Runner" 32 "StepsAhead$Runner" "place" "I" ∈ GT := GT_of 116 rfl rfl
set_option maxRecDepth 100000 in
theorem wd_80 : Cond.methodLink "StepsAhead$Routine" 3 Lib.objectInit ∈ GT := GT_of 136 rfl rfl
set_option maxRecDepth 100000 in
theorem wd_81 : Cond.classLink "StepsAhead$Routine" 9 "StepsAhead$Op" ∈ GT := GT_of 137 rfl rfl
set_option maxRecDepth 100000 in
theorem wd_82 : Cond.fieldLink "StepsAhead$Routine" 11 "StepsAhead$Routine" "ops" "[LStepsAhead$Op;" ∈ GT := GT_of 143 rfl rfl
set_option maxRecDepth 100000 in
theorem wd_83 : Cond.fieldLink "StepsAhead$Routine" 17 "StepsAhead$Routine" "size" "I" ∈ GT := GT_of 144 rfl rfl
set_option maxRecDepth 100000 in
theorem wd_84 : Cond.fieldLink "StepsAhead$Routine" 21 "StepsAhead$Routine" "open" "[I" ∈ GT := GT_of 147 rfl rfl
set_option maxRecDepth 100000 in
theorem wd_85 : Cond.fieldLink "StepsAhead$Routine" 25 "StepsAhead$Routine" "openSize" "I" ∈ GT := GT_of 148 rfl rfl
set_option maxRecDepth 100000 in
theorem wd_86 : Cond.fieldLink "StepsAhead$Routine" 28 "StepsAhead$Routine" "calledBits" "I" ∈ GT := GT_of 149 rfl rfl
set_option maxRecDepth 100000 in
theorem wd_87 : Cond.classLink "StepsAhead$Routine" 31 ("[" ++ (FieldType.array .long).toString) ∈ GT := GT_of 139 rfl rfl
set_option maxRecDepth 100000 in
theorem wd_88 : Cond.fieldLink "StepsAhead$Routine" 33 "StepsAhead$Routine" "formulas" "[[J" ∈ GT := GT_of 151 rfl rfl
set_option maxRecDepth 100000 in
theorem wd_89 : Cond.fieldLink "StepsAhead$Routine" 36 "StepsAhead$Routine" "standings" "[I" ∈ GT := GT_of 154 rfl rfl
set_option maxRecDepth 100000 in
theorem wd_90 : Cond.fieldLink "StepsAhead$Routine" 39 "StepsAhead$Routine" "variables" "[J" ∈ GT := GT_of 157 rfl rfl
set_option maxRecDepth 100000 in
theorem wd_91 : Cond.fieldLink "StepsAhead$Routine" 43 "StepsAhead$Routine" "rounds" "[J" ∈ GT := GT_of 158 rfl rfl
set_option maxRecDepth 100000 in
theorem wd_92 : Cond.fieldLink "StepsAhead$Routine" 46 "StepsAhead$Routine" "caller" "LStepsAhead$Routine;" ∈ GT := GT_of 159 rfl rfl
set_option maxRecDepth 100000 in
theorem wd_93 : Cond.fieldLink "StepsAhead$Routine" 50 "StepsAhead$Routine" "placeInCaller" "I" ∈ GT := GT_of 161 rfl rfl
set_option maxRecDepth 100000 in
theorem wd_94 : Cond.fieldLink "StepsAhead$Routine" 53 "StepsAhead$Routine" "number" "I" ∈ GT := GT_of 140 rfl rfl
set_option maxRecDepth 100000 in
theorem wd_95 : Cond.constant "StepsAhead" 50 (-1000003) ∈ GT := GT_of 214 rfl rfl
set_option maxRecDepth 100000 in
theorem wd_96 : Cond.code (yn 13) (cod 13) (mxl 13) (rty 13) ∈ GT := GT_of 221 rfl rfl
set_option maxRecDepth 100000 in
theorem wd_97 : Cond.initialized "StepsAhead" ∈ GT := GT_of 1 rfl rfl
set_option maxRecDepth 100000 in
theorem wd_98 : Cond.methodLink "StepsAhead" 51 (yn 13) ∈ GT := GT_of 219 rfl rfl
set_option maxRecDepth 100000 in
theorem wd_99 : Cond.static (yn 13) ∈ GT := GT_of 220 rfl rfl
set_option maxRecDepth 100000 in
theorem wd_100 : Cond.constant "StepsAhead" 55 (-1000001) ∈ GT := GT_of 222 rfl rfl
set_option maxRecDepth 100000 in
theorem wd_101 : Cond.code (yn 15) (cod 15) (mxl 15) (rty 15) ∈ GT := GT_of 230 rfl rfl
set_option maxRecDepth 100000 in
theorem wd_102 : Cond.methodLink "StepsAhead" 56 (yn 15) ∈ GT := GT_of 227 rfl rfl
set_option maxRecDepth 100000 in
theorem wd_103 : Cond.instanceMethod (yn 15) ∈ GT := GT_of 229 rfl rfl
set_option maxRecDepth 100000 in
theorem wd_104 : Cond.selects "StepsAhead" (yn 15) (yn 15) ∈ GT := GT_sel 2 rfl rfl
set_option maxRecDepth 100000 in
theorem wd_105 : Cond.code (yn 16) (cod 16) (mxl 16) (rty 16) ∈ GT := GT_of 234 rfl rfl
set_option maxRecDepth 100000 in
theorem wd_106 : Cond.methodLink "StepsAhead" 60 (yn 16) ∈ GT := GT_of 231 rfl rfl
set_option maxRecDepth 100000 in
theorem wd_107 : Cond.instanceMethod (yn 16) ∈ GT := GT_of 232 rfl rfl
set_option maxRecDepth 100000 in
theorem wd_108 : Cond.selects "StepsAhead$Routine" (yn 16) (yn 16) ∈ GT := GT_of 233 rfl rfl
set_option maxRecDepth 100000 in
theorem wd_109 : Cond.classLink "StepsAhead" 64 "StepsAhead$Work" ∈ GT := GT_of 235 rfl rfl
set_option maxRecDepth 100000 in
theorem wd_110 : Cond.instantiable "StepsAhead$Work" 5 ∈ GT := GT_of 236 rfl rfl
set_option maxRecDepth 100000 in
theorem wd_111 : Cond.initialized "StepsAhead$Work" ∈ GT := GT_of 10 rfl rfl
set_option maxRecDepth 100000 in
theorem wd_112 : Cond.fieldLink "StepsAhead" 66 "StepsAhead$Routine" "size" "I" ∈ GT := GT_of 146 rfl rfl
set_option maxRecDepth 100000 in
theorem wd_113 : Cond.code (yn 17) (cod 17) (mxl 17) (rty 17) ∈ GT := GT_of 240 rfl rfl
set_option maxRecDepth 100000 in
theorem wd_114 : Cond.methodLink "StepsAhead" 69 (yn 17) ∈ GT := GT_of 237 rfl rfl
set_option maxRecDepth 100000 in
theorem wd_115 : Cond.instanceMethod (yn 17) ∈ GT := GT_of 238 rfl rfl
set_option maxRecDepth 100000 in
theorem wd_116 : Cond.selects "StepsAhead$Routine" (yn 17) (yn 17) ∈ GT := GT_of 239 rfl rfl
set_option maxRecDepth 100000 in
theorem wd_117 : Cond.code (yn 19) (cod 19) (mxl 19) (rty 19) ∈ GT := GT_of 248 rfl rfl
set_option maxRecDepth 100000 in
theorem wd_118 : Cond.methodLink "StepsAhead" 73 (yn 19) ∈ GT := GT_of 246 rfl rfl
set_option maxRecDepth 100000 in
theorem wd_119 : Cond.instanceMethod (yn 19) ∈ GT := GT_of 247 rfl rfl
set_option maxRecDepth 100000 in
theorem wd_120 : Cond.code (yn 21) (cod 21) (mxl 21) (rty 21) ∈ GT := GT_of 290 rfl rfl
set_option maxRecDepth 100000 in
theorem wd_121 : Cond.methodLink "StepsAhead" 76 (yn 21) ∈ GT := GT_of 287 rfl rfl
set_option maxRecDepth 100000 in
theorem wd_122 : Cond.instanceMethod (yn 21) ∈ GT := GT_of 289 rfl rfl
set_option maxRecDepth 100000 in
theorem wd_123 : Cond.selects "StepsAhead" (yn 21) (yn 21) ∈ GT := GT_sel 3 rfl rfl
set_option maxRecDepth 100000 in
theorem wd_124 : Cond.code (yn 18) (cod 18) (mxl 18) (rty 18) ∈ GT := GT_of 244 rfl rfl
set_option maxRecDepth 100000 in
theorem wd_125 : Cond.methodLink "StepsAhead$Routine" 56 (yn 18) ∈ GT := GT_of 241 rfl rfl
set_option maxRecDepth 100000 in
theorem wd_126 : Cond.instanceMethod (yn 18) ∈ GT := GT_of 242 rfl rfl
set_option maxRecDepth 100000 in
theorem wd_127 : Cond.selects "StepsAhead$Routine" (yn 18) (yn 18) ∈ GT := GT_of 243 rfl rfl
set_option maxRecDepth 100000 in
theorem wd_128 : Cond.classLink "StepsAhead$Routine" 60 "StepsAhead$Loop" ∈ GT := GT_of 245 rfl rfl
set_option maxRecDepth 100000 in
theorem wd_129 : Cond.code (yn 20) (cod 20) (mxl 20) (rty 20) ∈ GT := GT_of 251 rfl rfl
set_option maxRecDepth 100000 in
theorem wd_130 : Cond.initialized "StepsAhead$Op" ∈ GT := GT_of 9 rfl rfl
set_option maxRecDepth 100000 in
theorem wd_131 : Cond.methodLink "StepsAhead$Work" 3 (yn 20) ∈ GT := GT_of 249 rfl rfl
set_option maxRecDepth 100000 in
theorem wd_132 : Cond.instanceMethod (yn 20) ∈ GT := GT_of 250 rfl rfl
set_option maxRecDepth 100000 in
theorem wd_133 : Cond.fieldLink "StepsAhead$Work" 9 "StepsAhead$Work" "c" "I" ∈ GT := GT_of 253 rfl rfl
set_option maxRecDepth 100000 in
theorem wd_134 : Cond.methodLink "StepsAhead$Op" 3 Lib.objectInit ∈ GT := GT_of 252 rfl rfl
set_option maxRecDepth 100000 in
theorem wd_135 : Cond.fieldLink "StepsAhead$Op" 9 "StepsAhead$Op" "ownKind" "I" ∈ GT := GT_of 256 rfl rfl
set_option maxRecDepth 100000 in
theorem wd_136 : Cond.fieldLink "StepsAhead$Op" 15 "StepsAhead$Op" "place" "I" ∈ GT := GT_of 261 rfl rfl
set_option maxRecDepth 100000 in
theorem wd_137 : Cond.fieldLink "StepsAhead$Op" 18 "StepsAhead$Op" "loopsAround" "I" ∈ GT := GT_of 266 rfl rfl
set_option maxRecDepth 100000 in
theorem wd_138 : Cond.fieldLink "StepsAhead$Op" 21 "StepsAhead$Op" "opener" "I" ∈ GT := GT_of 272 rfl rfl
set_option maxRecDepth 100000 in
theorem wd_139 : Cond.code (yn 22) (cod 22) (mxl 22) (rty 22) ∈ GT := GT_of 294 rfl rfl
set_option maxRecDepth 100000 in
theorem wd_140 : Cond.methodLink "StepsAhead" 220 (yn 22) ∈ GT := GT_of 291 rfl rfl
set_option maxRecDepth 100000 in
theorem wd_141 : Cond.instanceMethod (yn 22) ∈ GT := GT_of 292 rfl rfl
set_option maxRecDepth 100000 in
theorem wd_142 : Cond.selects "StepsAhead$Routine" (yn 22) (yn 22) ∈ GT := GT_of 293 rfl rfl
set_option maxRecDepth 100000 in
theorem wd_143 : Cond.fieldLink "StepsAhead" 119 "StepsAhead$Routine" "number" "I" ∈ GT := GT_of 142 rfl rfl
set_option maxRecDepth 100000 in
theorem wd_144 : Cond.code (yn 28) (cod 28) (mxl 28) (rty 28) ∈ GT := GT_of 321 rfl rfl
set_option maxRecDepth 100000 in
theorem wd_145 : Cond.methodLink "StepsAhead" 122 (yn 28) ∈ GT := GT_of 318 rfl rfl
set_option maxRecDepth 100000 in
theorem wd_146 : Cond.instanceMethod (yn 28) ∈ GT := GT_of 320 rfl rfl
set_option maxRecDepth 100000 in
theorem wd_147 : Cond.selects "StepsAhead" (yn 28) (yn 28) ∈ GT := GT_sel 6 rfl rfl
set_option maxRecDepth 100000 in
theorem wd_148 : Cond.fieldLink "StepsAhead" 110 "StepsAhead$Op" "place" "I" ∈ GT := GT_of 265 rfl rfl
set_option maxRecDepth 100000 in
theorem wd_149 : Cond.methodLink "StepsAhead$Routine" 64 (yn 16) ∈ GT := GT_of 295 rfl rfl
set_option maxRecDepth 100000 in
theorem wd_150 : Cond.code (yn 23) (cod 23) (mxl 23) (rty 23) ∈ GT := GT_of 299 rfl rfl
set_option maxRecDepth 100000 in
theorem wd_151 : Cond.methodLink "StepsAhead$Routine" 68 (yn 23) ∈ GT := GT_of 296 rfl rfl
set_option maxRecDepth 100000 in
theorem wd_152 : Cond.instanceMethod (yn 23) ∈ GT := GT_of 298 rfl rfl
set_option maxRecDepth 100000 in
theorem wd_153 : Cond.selects "StepsAhead$Routine" (yn 23) (yn 23) ∈ GT := GT_sel 4 rfl rfl
set_option maxRecDepth 100000 in
theorem wd_154 : Cond.fieldLink "StepsAhead$Routine" 71 "StepsAhead$Op" "ownKind" "I" ∈ GT := GT_of 259 rfl rfl
set_option maxRecDepth 100000 in
theorem wd_155 : Cond.fieldLink "StepsAhead$Routine" 74 "StepsAhead$Op" "place" "I" ∈ GT := GT_of 264 rfl rfl
set_option maxRecDepth 100000 in
theorem wd_156 : Cond.code (yn 24) (cod 24) (mxl 24) (rty 24) ∈ GT := GT_of 304 rfl rfl
set_option maxRecDepth 100000 in
theorem wd_157 : Cond.methodLink "StepsAhead$Routine" 77 (yn 24) ∈ GT := GT_of 301 rfl rfl
set_option maxRecDepth 100000 in
theorem wd_158 : Cond.instanceMethod (yn 24) ∈ GT := GT_of 303 rfl rfl
set_option maxRecDepth 100000 in
theorem wd_159 : Cond.selects "StepsAhead$Routine" (yn 24) (yn 24) ∈ GT := GT_sel 5 rfl rfl
set_option maxRecDepth 100000 in
theorem wd_160 : Cond.fieldLink "StepsAhead$Routine" 81 "StepsAhead$Op" "opener" "I" ∈ GT := GT_of 275 rfl rfl
set_option maxRecDepth 100000 in
theorem wd_161 : Cond.code (yn 27) (cod 27) (mxl 27) (rty 27) ∈ GT := GT_of 317 rfl rfl
set_option maxRecDepth 100000 in
theorem wd_162 : Cond.methodLink "StepsAhead$Routine" 84 (yn 27) ∈ GT := GT_of 305 rfl rfl
set_option maxRecDepth 100000 in
theorem wd_163 : Cond.instanceMethod (yn 27) ∈ GT := GT_of 306 rfl rfl
set_option maxRecDepth 100000 in
theorem wd_164 : Cond.sameMethod "StepsAhead$Op" "StepsAhead$Op" "closedAt" "(II)V" ∈ GT := GT_of 308 rfl rfl
set_option maxRecDepth 100000 in
theorem wd_165 : Cond.selects "StepsAhead$Call" (yn 27) (yn 27) ∈ GT := GT_of 309 rfl rfl
set_option maxRecDepth 100000 in
theorem wd_166 : Cond.code (yn 25) (cod 25) (mxl 25) (rty 25) ∈ GT := GT_of 312 rfl rfl
set_option maxRecDepth 100000 in
theorem wd_167 : Cond.initialized "StepsAhead$Either" ∈ GT := GT_of 14 rfl rfl
set_option maxRecDepth 100000 in
theorem wd_168 : Cond.instanceMethod (yn 25) ∈ GT := GT_of 311 rfl rfl
set_option maxRecDepth 100000 in
theorem wd_169 : Cond.selects "StepsAhead$Either" (yn 27) (yn 25) ∈ GT := GT_of 310 rfl rfl
set_option maxRecDepth 100000 in
theorem wd_170 : Cond.code (yn 26) (cod 26) (mxl 26) (rty 26) ∈ GT := GT_of 315 rfl rfl
set_option maxRecDepth 100000 in
theorem wd_171 : Cond.initialized "StepsAhead$Loop" ∈ GT := GT_of 12 rfl rfl
set_option maxRecDepth 100000 in
theorem wd_172 : Cond.instanceMethod (yn 26) ∈ GT := GT_of 314 rfl rfl
set_option maxRecDepth 100000 in
theorem wd_173 : Cond.selects "StepsAhead$Loop" (yn 27) (yn 26) ∈ GT := GT_of 313 rfl rfl
set_option maxRecDepth 100000 in
theorem wd_174 : Cond.selects "StepsAhead$Op" (yn 27) (yn 27) ∈ GT := GT_of 307 rfl rfl
set_option maxRecDepth 100000 in
theorem wd_175 : Cond.selects "StepsAhead$Work" (yn 27) (yn 27) ∈ GT := GT_of 316 rfl rfl
set_option maxRecDepth 100000 in
theorem wd_176 : Cond.classLink "StepsAhead$Routine" 62 "StepsAhead$Call" ∈ GT := GT_of 300 rfl rfl
set_option maxRecDepth 100000 in
theorem wd_177 : Cond.fieldLink "StepsAhead$Routine" 88 "StepsAhead$Call" "target" "LStepsAhead$Routine;" ∈ GT := GT_of 382 rfl rfl
set_option maxRecDepth 100000 in
theorem wd_178 : Cond.fieldLink "StepsAhead$Either" 9 "StepsAhead$Either" "or" "I" ∈ GT := GT_of 404 rfl rfl
set_option maxRecDepth 100000 in
theorem wd_179 : Cond.fieldLink "StepsAhead$Either" 15 "StepsAhead$Either" "done" "I" ∈ GT := GT_of 406 rfl rfl
set_option maxRecDepth 100000 in
theorem wd_180 : Cond.fieldLink "StepsAhead$Loop" 9 "StepsAhead$Loop" "end" "I" ∈ GT := GT_of 347 rfl rfl
set_option maxRecDepth 100000 in
theorem wd_181 : Cond.code (yn 29) (cod 29) (mxl 29) (rty 29) ∈ GT := GT_of 325 rfl rfl
set_option maxRecDepth 100000 in
theorem wd_182 : Cond.methodLink "StepsAhead" 223 (yn 29) ∈ GT := GT_of 322 rfl rfl
set_option maxRecDepth 100000 in
theorem wd_183 : Cond.instanceMethod (yn 29) ∈ GT := GT_of 323 rfl rfl
set_option maxRecDepth 100000 in
theorem wd_184 : Cond.selects "StepsAhead$Routine" (yn 29) (yn 29) ∈ GT := GT_of 324 rfl rfl
set_option maxRecDepth 100000 in
theorem wd_185 : Cond.constant "StepsAhead" 80 (-1000002) ∈ GT := GT_of 330 rfl rfl
set_option maxRecDepth 100000 in
theorem wd_186 : Cond.classLink "StepsAhead" 81 "StepsAhead$Loop" ∈ GT := GT_of 331 rfl rfl
set_option maxRecDepth 100000 in
theorem wd_187 : Cond.instantiable "StepsAhead$Loop" 6 ∈ GT := GT_of 332 rfl rfl
set_option maxRecDepth 100000 in
theorem wd_188 : Cond.methodLink "StepsAhead" 83 ⟨"[I", "clone", "()Ljava/lang/Object;"⟩ ∈ GT := GT_of 333 rfl rfl
set_option maxRecDepth 100000 in
theorem wd_189 : Cond.sameMethod "[I" "java/lang/Object" "clone" "()Ljava/lang/Object;" ∈ GT := GT_of 334 rfl rfl
set_option maxRecDepth 100000 in
theorem wd_190 : Cond.native ⟨"java/lang/Object", "clone", "()Ljava/lang/Object;"⟩ ∈ GT := GT_of 335 rfl rfl
set_option maxRecDepth 100000 in
theorem wd_191 : Cond.instanceMethod ⟨"java/lang/Object", "clone", "()Ljava/lang/Object;"⟩ ∈ GT := GT_of 336 rfl rfl
set_option maxRecDepth 100000 in
theorem wd_192 : Cond.selects "[I" ⟨"[I", "clone", "()Ljava/lang/Object;"⟩ ⟨"java/lang/Object", "clone", "()Ljava/lang/Object;"⟩ ∈ GT := GT_of 337 rfl rfl
set_option maxRecDepth 100000 in
theorem wd_193 : Cond.classLink "StepsAhead" 84 "[I" ∈ GT := GT_of 339 rfl rfl
set_option maxRecDepth 100000 in
theorem wd_194 : Cond.code (yn 31) (cod 31) (mxl 31) (rty 31) ∈ GT := GT_of 342 rfl rfl
set_option maxRecDepth 100000 in
theorem wd_195 : Cond.methodLink "StepsAhead" 88 (yn 31) ∈ GT := GT_of 340 rfl rfl
set_option maxRecDepth 100000 in
theorem wd_196 : Cond.instanceMethod (yn 31) ∈ GT := GT_of 341 rfl rfl
set_option maxRecDepth 100000 in
theorem wd_197 : Cond.code (yn 32) (cod 32) (mxl 32) (rty 32) ∈ GT := GT_of 345 rfl rfl
set_option maxRecDepth 100000 in
theorem wd_198 : Cond.initialized "StepsAhead$Counted" ∈ GT := GT_of 11 rfl rfl
set_option maxRecDepth 100000 in
theorem wd_199 : Cond.methodLink "StepsAhead$Loop" 3 (yn 32) ∈ GT := GT_of 343 rfl rfl
set_option maxRecDepth 100000 in
theorem wd_200 : Cond.instanceMethod (yn 32) ∈ GT := GT_of 344 rfl rfl
set_option maxRecDepth 100000 in
theorem wd_201 : Cond.methodLink "StepsAhead$Counted" 3 (yn 20) ∈ GT := GT_of 346 rfl rfl
set_option maxRecDepth 100000 in
theorem wd_202 : Cond.fieldLink "StepsAhead$Counted" 9 "StepsAhead$Counted" "first" "[I" ∈ GT := GT_of 349 rfl rfl
set_option maxRecDepth 100000 in
theorem wd_203 : Cond.classLink "StepsAhead" 91 "StepsAhead$Call" ∈ GT := GT_of 371 rfl rfl
set_option maxRecDepth 100000 in
theorem wd_204 : Cond.instantiable "StepsAhead$Call" 7 ∈ GT := GT_of 372 rfl rfl
set_option maxRecDepth 100000 in
theorem wd_205 : Cond.initialized "StepsAhead$Call" ∈ GT := GT_of 13 rfl rfl
set_option maxRecDepth 100000 in
theorem wd_206 : Cond.code (yn 34) (cod 34) (mxl 34) (rty 34) ∈ GT := GT_of 375 rfl rfl
set_option maxRecDepth 100000 in
theorem wd_207 : Cond.methodLink "StepsAhead" 93 (yn 34) ∈ GT := GT_of 373 rfl rfl
set_option maxRecDepth 100000 in
theorem wd_208 : Cond.instanceMethod (yn 34) ∈ GT := GT_of 374 rfl rfl
set_option maxRecDepth 100000 in
theorem wd_209 : Cond.methodLink "StepsAhead$Call" 3 (yn 32) ∈ GT := GT_of 376 rfl rfl
set_option maxRecDepth 100000 in
theorem wd_210 : Cond.fieldLink "StepsAhead$Call" 9 "StepsAhead$Call" "second" "[I" ∈ GT := GT_of 377 rfl rfl
set_option maxRecDepth 100000 in
theorem wd_211 : Cond.fieldLink "StepsAhead$Call" 15 "StepsAhead$Call" "target" "LStepsAhead$Routine;" ∈ GT := GT_of 380 rfl rfl
set_option maxRecDepth 100000 in
theorem wd_212 : Cond.classLink "StepsAhead" 96 "StepsAhead$Either" ∈ GT := GT_of 398 rfl rfl
set_option maxRecDepth 100000 in
theorem wd_213 : Cond.instantiable "StepsAhead$Either" 8 ∈ GT := GT_of 399 rfl rfl
set_option maxRecDepth 100000 in
theorem wd_214 : Cond.code (yn 36) (cod 36) (mxl 36) (rty 36) ∈ GT := GT_of 402 rfl rfl
set_option maxRecDepth 100000 in
theorem wd_215 : Cond.methodLink "StepsAhead" 98 (yn 36) ∈ GT := GT_of 400 rfl rfl
set_option maxRecDepth 100000 in
theorem wd_216 : Cond.instanceMethod (yn 36) ∈ GT := GT_of 401 rfl rfl
set_option maxRecDepth 100000 in
theorem wd_217 : Cond.methodLink "StepsAhead$Either" 3 (yn 20) ∈ GT := GT_of 403 rfl rfl
set_option maxRecDepth 100000 in
theorem wd_218 : Cond.fieldLink "StepsAhead$Either" 18 "StepsAhead$Either" "stepsBefore" "I" ∈ GT := GT_of 408 rfl rfl
set_option maxRecDepth 100000 in
theorem wd_219 : Cond.fieldLink "StepsAhead$Either" 21 "StepsAhead$Either" "stepsOfFirst" "I" ∈ GT := GT_of 410 rfl rfl
set_option maxRecDepth 100000 in
theorem wd_220 : Cond.code (yn 38) (cod 38) (mxl 38) (rty 38) ∈ GT := GT_of 432 rfl rfl
set_option maxRecDepth 100000 in
theorem wd_221 : Cond.methodLink "StepsAhead" 101 (yn 38) ∈ GT := GT_of 429 rfl rfl
set_option maxRecDepth 100000 in
theorem wd_222 : Cond.instanceMethod (yn 38) ∈ GT := GT_of 430 rfl rfl
set_option maxRecDepth 100000 in
theorem wd_223 : Cond.selects "StepsAhead$Routine" (yn 38) (yn 38) ∈ GT := GT_of 431 rfl rfl
set_option maxRecDepth 100000 in
theorem wd_224 : Cond.code (yn 41) (cod 41) (mxl 41) (rty 41) ∈ GT := GT_of 445 rfl rfl
set_option maxRecDepth 100000 in
theorem wd_225 : Cond.methodLink "StepsAhead" 105 (yn 41) ∈ GT := GT_of 433 rfl rfl
set_option maxRecDepth 100000 in
theorem wd_226 : Cond.instanceMethod (yn 41) ∈ GT := GT_of 434 rfl rfl
set_option maxRecDepth 100000 in
theorem wd_227 : Cond.sameMethod "StepsAhead$Op" "StepsAhead$Op" "isClosedNextBy" "(I)Z" ∈ GT := GT_of 436 rfl rfl
set_option maxRecDepth 100000 in
theorem wd_228 : Cond.selects "StepsAhead$Call" (yn 41) (yn 41) ∈ GT := GT_of 437 rfl rfl
set_option maxRecDepth 100000 in
theorem wd_229 : Cond.code (yn 39) (cod 39) (mxl 39) (rty 39) ∈ GT := GT_of 440 rfl rfl
set_option maxRecDepth 100000 in
theorem wd_230 : Cond.instanceMethod (yn 39) ∈ GT := GT_of 439 rfl rfl
set_option maxRecDepth 100000 in
theorem wd_231 : Cond.selects "StepsAhead$Either" (yn 41) (yn 39) ∈ GT := GT_of 438 rfl rfl
set_option maxRecDepth 100000 in
theorem wd_232 : Cond.code (yn 40) (cod 40) (mxl 40) (rty 40) ∈ GT := GT_of 443 rfl rfl
set_option maxRecDepth 100000 in
theorem wd_233 : Cond.instanceMethod (yn 40) ∈ GT := GT_of 442 rfl rfl
set_option maxRecDepth 100000 in
theorem wd_234 : Cond.selects "StepsAhead$Loop" (yn 41) (yn 40) ∈ GT := GT_of 441 rfl rfl
set_option maxRecDepth 100000 in
theorem wd_235 : Cond.selects "StepsAhead$Op" (yn 41) (yn 41) ∈ GT := GT_of 435 rfl rfl
set_option maxRecDepth 100000 in
theorem wd_236 : Cond.selects "StepsAhead$Work" (yn 41) (yn 41) ∈ GT := GT_of 444 rfl rfl
set_option maxRecDepth 100000 in
theorem wd_237 : Cond.classLink "StepsAhead" 106 "StepsAhead$Op" ∈ GT := GT_of 446 rfl rfl
set_option maxRecDepth 100000 in
theorem wd_238 : Cond.instantiable "StepsAhead$Op" 4 ∈ GT := GT_of 447 rfl rfl
set_option maxRecDepth 100000 in
theorem wd_239 : Cond.methodLink "StepsAhead" 113 (yn 20) ∈ GT := GT_of 448 rfl rfl
set_option maxRecDepth 100000 in
theorem wd_240 : Cond.code (yn 43) (cod 43) (mxl 43) (rty 43) ∈ GT := GT_of 461 rfl rfl
set_option maxRecDepth 100000 in
theorem wd_241 : Cond.methodLink "StepsAhead" 116 (yn 43) ∈ GT := GT_of 458 rfl rfl
set_option maxRecDepth 100000 in
theorem wd_242 : Cond.instanceMethod (yn 43) ∈ GT := GT_of 459 rfl rfl
set_option maxRecDepth 100000 in
theorem wd_243 : Cond.selects "StepsAhead$Routine" (yn 43) (yn 43) ∈ GT := GT_of 460 rfl rfl
set_option maxRecDepth 100000 in
theorem wd_244 : Cond.code (yn 45) (cod 45) (mxl 45) (rty 45) ∈ GT := GT_of 469 rfl rfl
set_option maxRecDepth 100000 in
theorem wd_245 : Cond.methodLink "StepsAhead" 125 (yn 45) ∈ GT := GT_of 466 rfl rfl
set_option maxRecDepth 100000 in
theorem wd_246 : Cond.instanceMethod (yn 45) ∈ GT := GT_of 468 rfl rfl
set_option maxRecDepth 100000 in
theorem wd_247 : Cond.selects "StepsAhead" (yn 45) (yn 45) ∈ GT := GT_sel 7 rfl rfl
set_option maxRecDepth 100000 in
theorem wd_248 : Cond.fieldLink "StepsAhead" 128 "StepsAhead$Op" "ownKind" "I" ∈ GT := GT_of 260 rfl rfl
set_option maxRecDepth 100000 in
theorem wd_249 : Cond.methodLink "StepsAhead" 216 (yn 18) ∈ GT := GT_of 470 rfl rfl
set_option maxRecDepth 100000 in
theorem wd_250 : Cond.code (yn 47) (cod 47) (mxl 47) (rty 47) ∈ GT := GT_of 481 rfl rfl
set_option maxRecDepth 100000 in
theorem wd_251 : Cond.code (yn 48) (cod 48) (mxl 48) (rty 48) ∈ GT := GT_of 487 rfl rfl
set_option maxRecDepth 100000 in
theorem wd_252 : Cond.methodLink "StepsAhead" 131 (yn 48) ∈ GT := GT_of 475 rfl rfl
set_option maxRecDepth 100000 in
theorem wd_253 : Cond.instanceMethod (yn 47) ∈ GT := GT_of 480 rfl rfl
set_option maxRecDepth 100000 in
theorem wd_254 : Cond.sameMethod "StepsAhead$Op" "StepsAhead$Op" "isOf" "(I)Z" ∈ GT := GT_of 478 rfl rfl
set_option maxRecDepth 100000 in
theorem wd_255 : Cond.selects "StepsAhead$Call" (yn 48) (yn 47) ∈ GT := GT_of 479 rfl rfl
set_option maxRecDepth 100000 in
theorem wd_256 : Cond.instanceMethod (yn 48) ∈ GT := GT_of 476 rfl rfl
set_option maxRecDepth 100000 in
theorem wd_257 : Cond.selects "StepsAhead$Either" (yn 48) (yn 48) ∈ GT := GT_of 484 rfl rfl
set_option maxRecDepth 100000 in
theorem wd_258 : Cond.selects "StepsAhead$Loop" (yn 48) (yn 47) ∈ GT := GT_of 485 rfl rfl
set_option maxRecDepth 100000 in
theorem wd_259 : Cond.selects "StepsAhead$Op" (yn 48) (yn 48) ∈ GT := GT_of 477 rfl rfl
set_option maxRecDepth 100000 in
theorem wd_260 : Cond.selects "StepsAhead$Work" (yn 48) (yn 48) ∈ GT := GT_of 486 rfl rfl
set_option maxRecDepth 100000 in
theorem wd_261 : Cond.methodLink "StepsAhead$Counted" 15 (yn 48) ∈ GT := GT_of 482 rfl rfl
set_option maxRecDepth 100000 in
theorem wd_262 : Cond.superclass "StepsAhead$Counted" "StepsAhead$Op" ∈ GT := GT_of 483 rfl rfl
set_option maxRecDepth 100000 in
theorem wd_263 : Cond.classLink "StepsAhead" 134 "StepsAhead$Counted" ∈ GT := GT_of 492 rfl rfl
set_option maxRecDepth 100000 in
theorem wd_264 : Cond.fieldLink "StepsAhead" 136 "StepsAhead$Counted" "first" "[I" ∈ GT := GT_of 356 rfl rfl
set_option maxRecDepth 100000 in
theorem wd_265 : Cond.constant "StepsAhead" 139 (-1000005) ∈ GT := GT_of 493 rfl rfl
set_option maxRecDepth 100000 in
theorem wd_266 : Cond.code (yn 51) (cod 51) (mxl 51) (rty 51) ∈ GT := GT_of 501 rfl rfl
set_option maxRecDepth 100000 in
theorem wd_267 : Cond.methodLink "StepsAhead" 140 (yn 51) ∈ GT := GT_of 498 rfl rfl
set_option maxRecDepth 100000 in
theorem wd_268 : Cond.instanceMethod (yn 51) ∈ GT := GT_of 499 rfl rfl
set_option maxRecDepth 100000 in
theorem wd_269 : Cond.selects "StepsAhead$Trace" (yn 51) (yn 51) ∈ GT := GT_of 500 rfl rfl
set_option maxRecDepth 100000 in
theorem wd_270 : Cond.code (yn 52) (cod 52) (mxl 52) (rty 52) ∈ GT := GT_of 508 rfl rfl
set_option maxRecDepth 100000 in
theorem wd_271 : Cond.code (yn 57) (cod 57) (mxl 57) (rty 57) ∈ GT := GT_of 529 rfl rfl
set_option maxRecDepth 100000 in
theorem wd_272 : Cond.methodLink "StepsAhead" 143 (yn 57) ∈ GT := GT_of 502 rfl rfl
set_option maxRecDepth 100000 in
theorem wd_273 : Cond.instanceMethod (yn 52) ∈ GT := GT_of 507 rfl rfl
set_option maxRecDepth 100000 in
theorem wd_274 : Cond.sameMethod "StepsAhead$Op" "StepsAhead$Op" "sizeAsked" "(LStepsAhead$Trace;)I" ∈ GT := GT_of 505 rfl rfl
set_option maxRecDepth 100000 in
theorem wd_275 : Cond.selects "StepsAhead$Call" (yn 57) (yn 52) ∈ GT := GT_of 506 rfl rfl
set_option maxRecDepth 100000 in
theorem wd_276 : Cond.instanceMethod (yn 57) ∈ GT := GT_of 503 rfl rfl
set_option maxRecDepth 100000 in
theorem wd_277 : Cond.selects "StepsAhead$Either" (yn 57) (yn 57) ∈ GT := GT_of 523 rfl rfl
set_option maxRecDepth 100000 in
theorem wd_278 : Cond.code (yn 54) (cod 54) (mxl 54) (rty 54) ∈ GT := GT_of 515 rfl rfl
set_option maxRecDepth 100000 in
theorem wd_279 : Cond.instanceMethod (yn 54) ∈ GT := GT_of 514 rfl rfl
set_option maxRecDepth 100000 in
theorem wd_280 : Cond.selects "StepsAhead$Loop" (yn 57) (yn 54) ∈ GT := GT_of 524 rfl rfl
set_option maxRecDepth 100000 in
theorem wd_281 : Cond.selects "StepsAhead$Op" (yn 57) (yn 57) ∈ GT := GT_of 504 rfl rfl
set_option maxRecDepth 100000 in
theorem wd_282 : Cond.code (yn 56) (cod 56) (mxl 56) (rty 56) ∈ GT := GT_of 527 rfl rfl
set_option maxRecDepth 100000 in
theorem wd_283 : Cond.instanceMethod (yn 56) ∈ GT := GT_of 526 rfl rfl
set_option maxRecDepth 100000 in
theorem wd_284 : Cond.selects "StepsAhead$Work" (yn 57) (yn 56) ∈ GT := GT_of 525 rfl rfl
set_option maxRecDepth 100000 in
theorem wd_285 : Cond.code (yn 58) (cod 58) (mxl 58) (rty 58) ∈ GT := GT_of 537 rfl rfl
set_option maxRecDepth 100000 in
theorem wd_286 : Cond.code (yn 62) (cod 62) (mxl 62) (rty 62) ∈ GT := GT_of 553 rfl rfl
set_option maxRecDepth 100000 in
theorem wd_287 : Cond.methodLink "StepsAhead" 147 (yn 62) ∈ GT := GT_of 531 rfl rfl
set_option maxRecDepth 100000 in
theorem wd_288 : Cond.instanceMethod (yn 58) ∈ GT := GT_of 536 rfl rfl
set_option maxRecDepth 100000 in
theorem wd_289 : Cond.sameMethod "StepsAhead$Op" "StepsAhead$Op" "markAsked" "(LStepsAhead$Trace;)I" ∈ GT := GT_of 534 rfl rfl
set_option maxRecDepth 100000 in
theorem wd_290 : Cond.selects "StepsAhead$Call" (yn 62) (yn 58) ∈ GT := GT_of 535 rfl rfl
set_option maxRecDepth 100000 in
theorem wd_291 : Cond.instanceMethod (yn 62) ∈ GT := GT_of 532 rfl rfl
set_option maxRecDepth 100000 in
theorem wd_292 : Cond.code (yn 59) (cod 59) (mxl 59) (rty 59) ∈ GT := GT_of 540 rfl rfl
set_option maxRecDepth 100000 in
theorem wd_293 : Cond.instanceMethod (yn 59) ∈ GT := GT_of 539 rfl rfl
set_option maxRecDepth 100000 in
theorem wd_294 : Cond.selects "StepsAhead$Either" (yn 62) (yn 59) ∈ GT := GT_of 538 rfl rfl
set_option maxRecDepth 100000 in
theorem wd_295 : Cond.code (yn 60) (cod 60) (mxl 60) (rty 60) ∈ GT := GT_of 545 rfl rfl
set_option maxRecDepth 100000 in
theorem wd_296 : Cond.instanceMethod (yn 60) ∈ GT := GT_of 544 rfl rfl
set_option maxRecDepth 100000 in
theorem wd_297 : Cond.selects "StepsAhead$Loop" (yn 62) (yn 60) ∈ GT := GT_of 543 rfl rfl
set_option maxRecDepth 100000 in
theorem wd_298 : Cond.selects "StepsAhead$Op" (yn 62) (yn 62) ∈ GT := GT_of 533 rfl rfl
set_option maxRecDepth 100000 in
theorem wd_299 : Cond.selects "StepsAhead$Work" (yn 62) (yn 62) ∈ GT := GT_of 552 rfl rfl
set_option maxRecDepth 100000 in
theorem wd_300 : Cond.code (yn 53) (cod 53) (mxl 53) (rty 53) ∈ GT := GT_of 512 rfl rfl
set_option maxRecDepth 100000 in
theorem wd_301 : Cond.methodLink "StepsAhead$Call" 19 (yn 53) ∈ GT := GT_of 509 rfl rfl
set_option maxRecDepth 100000 in
theorem wd_302 : Cond.instanceMethod (yn 53) ∈ GT := GT_of 510 rfl rfl
set_option maxRecDepth 100000 in
theorem wd_303 : Cond.selects "StepsAhead$Trace" (yn 53) (yn 53) ∈ GT := GT_of 511 rfl rfl
set_option maxRecDepth 100000 in
theorem wd_304 : Cond.methodLink "StepsAhead$Call" 25 (yn 54) ∈ GT := GT_of 513 rfl rfl
set_option maxRecDepth 100000 in
theorem wd_305 : Cond.sameMethod "StepsAhead$Counted" "StepsAhead$Counted" "sizeAsked" "(LStepsAhead$Trace;)I" ∈ GT := GT_of 1184 rfl rfl
set_option maxRecDepth 100000 in
theorem wd_306 : Cond.superclass "StepsAhead$Call" "StepsAhead$Counted" ∈ GT := GT_of 393 rfl rfl
set_option maxRecDepth 100000 in
theorem wd_307 : Cond.methodLink "StepsAhead$Call" 29 ⟨"StepsAhead$Call", "notZero", "([I)I"⟩ ∈ GT := GT_of 521 rfl rfl
set_option maxRecDepth 100000 in
theorem wd_308 : Cond.sameMethod "StepsAhead$Call" "StepsAhead$Counted" "notZero" "([I)I" ∈ GT := GT_of 522 rfl rfl
set_option maxRecDepth 100000 in
theorem wd_309 : Cond.code (yn 55) (cod 55) (mxl 55) (rty 55) ∈ GT := GT_of 520 rfl rfl
set_option maxRecDepth 100000 in
theorem wd_310 : Cond.static (yn 55) ∈ GT := GT_of 519 rfl rfl
set_option maxRecDepth 100000 in
theorem wd_311 : Cond.methodLink "StepsAhead$Counted" 19 (yn 53) ∈ GT := GT_of 516 rfl rfl
set_option maxRecDepth 100000 in
theorem wd_312 : Cond.methodLink "StepsAhead$Counted" 25 (yn 57) ∈ GT := GT_of 517 rfl rfl
set_option maxRecDepth 100000 in
theorem wd_313 : Cond.methodLink "StepsAhead$Counted" 29 (yn 55) ∈ GT := GT_of 518 rfl rfl
set_option maxRecDepth 100000 in
theorem wd_314 : Cond.methodLink "StepsAhead$Work" 15 (yn 53) ∈ GT := GT_of 528 rfl rfl
set_option maxRecDepth 100000 in
theorem wd_315 : Cond.methodLink "StepsAhead$Op" 24 (yn 53) ∈ GT := GT_of 530 rfl rfl
set_option maxRecDepth 100000 in
theorem wd_316 : Cond.fieldLink "StepsAhead$Call" 33 "StepsAhead$Routine" "number" "I" ∈ GT := GT_of 141 rfl rfl
set_option maxRecDepth 100000 in
theorem wd_317 : Cond.methodLink "StepsAhead$Either" 24 (yn 53) ∈ GT := GT_of 541 rfl rfl
set_option maxRecDepth 100000 in
theorem wd_318 : Cond.methodLink "StepsAhead$Either" 30 (yn 62) ∈ GT := GT_of 542 rfl rfl
set_option maxRecDepth 100000 in
theorem wd_319 : Cond.superclass "StepsAhead$Either" "StepsAhead$Op" ∈ GT := GT_of 424 rfl rfl
set_option maxRecDepth 100000 in
theorem wd_320 : Cond.methodLink "StepsAhead$Loop" 22 (yn 53) ∈ GT := GT_of 546 rfl rfl
set_option maxRecDepth 100000 in
theorem wd_321 : Cond.code (yn 61) (cod 61) (mxl 61) (rty 61) ∈ GT := GT_of 549 rfl rfl
set_option maxRecDepth 100000 in
theorem wd_322 : Cond.methodLink "StepsAhead$Loop" 28 (yn 61) ∈ GT := GT_of 547 rfl rfl
set_option maxRecDepth 100000 in
theorem wd_323 : Cond.instanceMethod (yn 61) ∈ GT := GT_of 548 rfl rfl
set_option maxRecDepth 100000 in
theorem wd_324 : Cond.sameMethod "StepsAhead$Counted" "StepsAhead$Counted" "markAsked" "(LStepsAhead$Trace;)I" ∈ GT := GT_of 1185 rfl rfl
set_option maxRecDepth 100000 in
theorem wd_325 : Cond.superclass "StepsAhead$Loop" "StepsAhead$Counted" ∈ GT := GT_of 366 rfl rfl
set_option maxRecDepth 100000 in
theorem wd_326 : Cond.fieldLink "StepsAhead$Loop" 15 "StepsAhead$Loop" "loopsAround" "I" ∈ GT := GT_of 267 rfl rfl
set_option maxRecDepth 100000 in
theorem wd_327 : Cond.sameField "StepsAhead$Loop" "StepsAhead$Op" "loopsAround" "I" ∈ GT := GT_of 268 rfl rfl
set_option maxRecDepth 100000 in
theorem wd_328 : Cond.methodLink "StepsAhead$Counted" 33 (yn 62) ∈ GT := GT_of 550 rfl rfl
set_option maxRecDepth 100000 in
theorem wd_329 : Cond.methodLink "StepsAhead$Counted" 36 (yn 54) ∈ GT := GT_of 551 rfl rfl
set_option maxRecDepth 100000 in
theorem wd_330 : Cond.selects "StepsAhead$Call" (yn 54) (yn 52) ∈ GT := GT_of 1186 rfl rfl
set_option maxRecDepth 100000 in
theorem wd_331 : Cond.selects "StepsAhead$Loop" (yn 54) (yn 54) ∈ GT := GT_of 1187 rfl rfl
set_option maxRecDepth 100000 in
theorem wd_332 : Cond.code (yn 64) (cod 64) (mxl 64) (rty 64) ∈ GT := GT_of 561 rfl rfl
set_option maxRecDepth 100000 in
theorem wd_333 : Cond.methodLink "StepsAhead" 150 (yn 64) ∈ GT := GT_of 558 rfl rfl
set_option maxRecDepth 100000 in
theorem wd_334 : Cond.instanceMethod (yn 64) ∈ GT := GT_of 559 rfl rfl
set_option maxRecDepth 100000 in
theorem wd_335 : Cond.selects "StepsAhead$Trace" (yn 64) (yn 64) ∈ GT := GT_of 560 rfl rfl
set_option maxRecDepth 100000 in
theorem wd_336 : Cond.constant "StepsAhead$Trace" 19 (-1000000) ∈ GT := GT_of 562 rfl rfl
set_option maxRecDepth 100000 in
theorem wd_337 : Cond.code (yn 66) (cod 66) (mxl 66) (rty 66) ∈ GT := GT_of 569 rfl rfl
set_option maxRecDepth 100000 in
theorem wd_338 : Cond.methodLink "StepsAhead" 154 (yn 66) ∈ GT := GT_of 567 rfl rfl
set_option maxRecDepth 100000 in
theorem wd_339 : Cond.static (yn 66) ∈ GT := GT_of 568 rfl rfl
set_option maxRecDepth 100000 in
theorem wd_340 : Cond.code (yn 67) (cod 67) (mxl 67) (rty 67) ∈ GT := GT_of 573 rfl rfl
set_option maxRecDepth 100000 in
theorem wd_341 : Cond.methodLink "StepsAhead" 157 (yn 67) ∈ GT := GT_of 570 rfl rfl
set_option maxRecDepth 100000 in
theorem wd_342 : Cond.instanceMethod (yn 67) ∈ GT := GT_of 572 rfl rfl
set_option maxRecDepth 100000 in
theorem wd_343 : Cond.selects "StepsAhead" (yn 67) (yn 67) ∈ GT := GT_sel 8 rfl rfl
set_option maxRecDepth 100000 in
theorem wd_344 : Cond.code (yn 96) (cod 96) (mxl 96) (rty 96) ∈ GT := GT_of 693 rfl rfl
set_option maxRecDepth 100000 in
theorem wd_345 : Cond.methodLink "StepsAhead" 161 (yn 96) ∈ GT := GT_of 690 rfl rfl
set_option maxRecDepth 100000 in
theorem wd_346 : Cond.instanceMethod (yn 96) ∈ GT := GT_of 691 rfl rfl
set_option maxRecDepth 100000 in
theorem wd_347 : Cond.selects "StepsAhead$Routine" (yn 96) (yn 96) ∈ GT := GT_of 692 rfl rfl
set_option maxRecDepth 100000 in
theorem wd_348 : Cond.code (yn 68) (cod 68) (mxl 68) (rty 68) ∈ GT := GT_of 577 rfl rfl
set_option maxRecDepth 100000 in
theorem wd_349 : Cond.methodLink "StepsAhead" 195 (yn 68) ∈ GT := GT_of 574 rfl rfl
set_option maxRecDepth 100000 in
theorem wd_350 : Cond.instanceMethod (yn 68) ∈ GT := GT_of 576 rfl rfl
set_option maxRecDepth 100000 in
theorem wd_351 : Cond.selects "StepsAhead" (yn 68) (yn 68) ∈ GT := GT_sel 9 rfl rfl
set_option maxRecDepth 100000 in
theorem wd_352 : Cond.code (yn 69) (cod 69) (mxl 69) (rty 69) ∈ GT := GT_of 581 rfl rfl
set_option maxRecDepth 100000 in
theorem wd_353 : Cond.methodLink "StepsAhead" 199 (yn 69) ∈ GT := GT_of 578 rfl rfl
set_option maxRecDepth 100000 in
theorem wd_354 : Cond.instanceMethod (yn 69) ∈ GT := GT_of 580 rfl rfl
set_option maxRecDepth 100000 in
theorem wd_355 : Cond.selects "StepsAhead" (yn 69) (yn 69) ∈ GT := GT_sel 10 rfl rfl
set_option maxRecDepth 100000 in
theorem wd_356 : Cond.fieldLink "StepsAhead" 229 "StepsAhead$Routine" "standings" "[I" ∈ GT := GT_of 156 rfl rfl
set_option maxRecDepth 100000 in
theorem wd_357 : Cond.code (yn 71) (cod 71) (mxl 71) (rty 71) ∈ GT := GT_of 589 rfl rfl
set_option maxRecDepth 100000 in
theorem wd_358 : Cond.methodLink "StepsAhead" 232 (yn 71) ∈ GT := GT_of 586 rfl rfl
set_option maxRecDepth 100000 in
theorem wd_359 : Cond.instanceMethod (yn 71) ∈ GT := GT_of 587 rfl rfl
set_option maxRecDepth 100000 in
theorem wd_360 : Cond.selects "StepsAhead$Reckoner" (yn 71) (yn 71) ∈ GT := GT_of 588 rfl rfl
set_option maxRecDepth 100000 in
theorem wd_361 : Cond.fieldLink "StepsAhead" 226 "StepsAhead$Routine" "calledBits" "I" ∈ GT := GT_of 150 rfl rfl
set_option maxRecDepth 100000 in
theorem wd_362 : Cond.code (yn 70) (cod 70) (mxl 70) (rty 70) ∈ GT := GT_of 585 rfl rfl
set_option maxRecDepth 100000 in
theorem wd_363 : Cond.methodLink "StepsAhead" 210 (yn 70) ∈ GT := GT_of 582 rfl rfl
set_option maxRecDepth 100000 in
theorem wd_364 : Cond.instanceMethod (yn 70) ∈ GT := GT_of 583 rfl rfl
set_option maxRecDepth 100000 in
theorem wd_365 : Cond.selects "StepsAhead$Routine" (yn 70) (yn 70) ∈ GT := GT_of 584 rfl rfl
set_option maxRecDepth 100000 in
theorem wd_366 : Cond.code (yn 72) (cod 72) (mxl 72) (rty 72) ∈ GT := GT_of 593 rfl rfl
set_option maxRecDepth 100000 in
theorem wd_367 : Cond.methodLink "StepsAhead$Reckoner" 41 (yn 72) ∈ GT := GT_of 590 rfl rfl
set_option maxRecDepth 100000 in
theorem wd_368 : Cond.instanceMethod (yn 72) ∈ GT := GT_of 592 rfl rfl
set_option maxRecDepth 100000 in
theorem wd_369 : Cond.selects "StepsAhead$Reckoner" (yn 72) (yn 72) ∈ GT := GT_sel 11 rfl rfl
set_option maxRecDepth 100000 in
theorem wd_370 : Cond.fieldLink "StepsAhead$Reckoner" 44 "StepsAhead$Routine" "size" "I" ∈ GT := GT_of 145 rfl rfl
set_option maxRecDepth 100000 in
theorem wd_371 : Cond.methodLink "StepsAhead$Reckoner" 49 (yn 18) ∈ GT := GT_of 597 rfl rfl
set_option maxRecDepth 100000 in
theorem wd_372 : Cond.classLink "StepsAhead$Reckoner" 53 "StepsAhead$Work" ∈ GT := GT_of 598 rfl rfl
set_option maxRecDepth 100000 in
theorem wd_373 : Cond.fieldLink "StepsAhead$Reckoner" 55 "StepsAhead$Work" "c" "I" ∈ GT := GT_of 254 rfl rfl
set_option maxRecDepth 100000 in
theorem wd_374 : Cond.constantLong "StepsAhead$Reckoner" 58 8640 ∈ GT := GT_of 599 rfl rfl
set_option maxRecDepth 100000 in
theorem wd_375 : Cond.code (yn 74) (cod 74) (mxl 74) (rty 74) ∈ GT := GT_of 603 rfl rfl
set_option maxRecDepth 100000 in
theorem wd_376 : Cond.methodLink "StepsAhead$Reckoner" 60 (yn 74) ∈ GT := GT_of 600 rfl rfl
set_option maxRecDepth 100000 in
theorem wd_377 : Cond.instanceMethod (yn 74) ∈ GT := GT_of 602 rfl rfl
set_option maxRecDepth 100000 in
theorem wd_378 : Cond.selects "StepsAhead$Reckoner" (yn 74) (yn 74) ∈ GT := GT_sel 12 rfl rfl
set_option maxRecDepth 100000 in
theorem wd_379 : Cond.classLink "StepsAhead$Reckoner" 64 "StepsAhead$Call" ∈ GT := GT_of 606 rfl rfl
set_option maxRecDepth 100000 in
theorem wd_380 : Cond.code (yn 75) (cod 75) (mxl 75) (rty 75) ∈ GT := GT_of 610 rfl rfl
set_option maxRecDepth 100000 in
theorem wd_381 : Cond.methodLink "StepsAhead$Reckoner" 66 (yn 75) ∈ GT := GT_of 607 rfl rfl
set_option maxRecDepth 100000 in
theorem wd_382 : Cond.instanceMethod (yn 75) ∈ GT := GT_of 609 rfl rfl
set_option maxRecDepth 100000 in
theorem wd_383 : Cond.selects "StepsAhead$Reckoner" (yn 75) (yn 75) ∈ GT := GT_sel 13 rfl rfl
set_option maxRecDepth 100000 in
theorem wd_384 : Cond.fieldLink "StepsAhead$Reckoner" 70 "StepsAhead$Op" "ownKind" "I" ∈ GT := GT_of 257 rfl rfl
set_option maxRecDepth 100000 in
theorem wd_385 : Cond.code (yn 83) (cod 83) (mxl 83) (rty 83) ∈ GT := GT_of 639 rfl rfl
set_option maxRecDepth 100000 in
theorem wd_386 : Cond.methodLink "StepsAhead$Reckoner" 75 (yn 83) ∈ GT := GT_of 636 rfl rfl
set_option maxRecDepth 100000 in
theorem wd_387 : Cond.instanceMethod (yn 83) ∈ GT := GT_of 638 rfl rfl
set_option maxRecDepth 100000 in
theorem wd_388 : Cond.selects "StepsAhead$Reckoner" (yn 83) (yn 83) ∈ GT := GT_sel 16 rfl rfl
set_option maxRecDepth 100000 in
theorem wd_389 : Cond.fieldLink "StepsAhead$Reckoner" 78 "StepsAhead$Op" "opener" "I" ∈ GT := GT_of 273 rfl rfl
set_option maxRecDepth 100000 in
theorem wd_390 : Cond.classLink "StepsAhead$Reckoner" 81 "StepsAhead$Loop" ∈ GT := GT_of 646 rfl rfl
set_option maxRecDepth 100000 in
theorem wd_391 : Cond.code (yn 86) (cod 86) (mxl 86) (rty 86) ∈ GT := GT_of 650 rfl rfl
set_option maxRecDepth 100000 in
theorem wd_392 : Cond.methodLink "StepsAhead$Reckoner" 83 (yn 86) ∈ GT := GT_of 647 rfl rfl
set_option maxRecDepth 100000 in
theorem wd_393 : Cond.instanceMethod (yn 86) ∈ GT := GT_of 649 rfl rfl
set_option maxRecDepth 100000 in
theorem wd_394 : Cond.selects "StepsAhead$Reckoner" (yn 86) (yn 86) ∈ GT := GT_sel 17 rfl rfl
set_option maxRecDepth 100000 in
theorem wd_395 : Cond.fieldLink "StepsAhead$Reckoner" 87 "StepsAhead$Routine" "standings" "[I" ∈ GT := GT_of 155 rfl rfl
set_option maxRecDepth 100000 in
theorem wd_396 : Cond.constant "StepsAhead$Reckoner" 91 (-1000003) ∈ GT := GT_of 685 rfl rfl
set_option maxRecDepth 100000 in
theorem wd_397 : Cond.fieldLink "StepsAhead$Reckoner" 92 "StepsAhead$Routine" "formulas" "[[J" ∈ GT := GT_of 152 rfl rfl
set_option maxRecDepth 100000 in
theorem wd_398 : Cond.code (yn 95) (cod 95) (mxl 95) (rty 95) ∈ GT := GT_of 689 rfl rfl
set_option maxRecDepth 100000 in
theorem wd_399 : Cond.methodLink "StepsAhead$Reckoner" 95 (yn 95) ∈ GT := GT_of 686 rfl rfl
set_option maxRecDepth 100000 in
theorem wd_400 : Cond.instanceMethod (yn 95) ∈ GT := GT_of 688 rfl rfl
set_option maxRecDepth 100000 in
theorem wd_401 : Cond.selects "StepsAhead$Reckoner" (yn 95) (yn 95) ∈ GT := GT_sel 21 rfl rfl
set_option maxRecDepth 100000 in
theorem wd_402 : Cond.code (yn 73) (cod 73) (mxl 73) (rty 73) ∈ GT := GT_of 596 rfl rfl
set_option maxRecDepth 100000 in
theorem wd_403 : Cond.methodLink "StepsAhead$Reckoner" 99 (yn 73) ∈ GT := GT_of 594 rfl rfl
set_option maxRecDepth 100000 in
theorem wd_404 : Cond.static (yn 73) ∈ GT := GT_of 595 rfl rfl
set_option maxRecDepth 100000 in
theorem wd_405 : Cond.constantLong "StepsAhead$Reckoner" 105 8640000000 ∈ GT := GT_of 604 rfl rfl
set_option maxRecDepth 100000 in
theorem wd_406 : Cond.constantLong "StepsAhead$Reckoner" 107 (-8640000000) ∈ GT := GT_of 605 rfl rfl
set_option maxRecDepth 100000 in
theorem wd_407 : Cond.fieldLink "StepsAhead$Reckoner" 175 "StepsAhead$Call" "target" "LStepsAhead$Routine;" ∈ GT := GT_of 383 rfl rfl
set_option maxRecDepth 100000 in
theorem wd_408 : Cond.code (yn 76) (cod 76) (mxl 76) (rty 76) ∈ GT := GT_of 613 rfl rfl
set_option maxRecDepth 100000 in
theorem wd_409 : Cond.methodLink "StepsAhead$Reckoner" 179 (yn 76) ∈ GT := GT_of 611 rfl rfl
set_option maxRecDepth 100000 in
theorem wd_410 : Cond.static (yn 76) ∈ GT := GT_of 612 rfl rfl
set_option maxRecDepth 100000 in
theorem wd_411 : Cond.code (yn 79) (cod 79) (mxl 79) (rty 79) ∈ GT := GT_of 622 rfl rfl
set_option maxRecDepth 100000 in
theorem wd_412 : Cond.methodLink "StepsAhead$Reckoner" 140 (yn 79) ∈ GT := GT_of 620 rfl rfl
set_option maxRecDepth 100000 in
theorem wd_413 : Cond.static (yn 79) ∈ GT := GT_of 621 rfl rfl
set_option maxRecDepth 100000 in
theorem wd_414 : Cond.fieldLink "StepsAhead$Reckoner" 182 "StepsAhead$Call" "first" "[I" ∈ GT := GT_of 357 rfl rfl
set_option maxRecDepth 100000 in
theorem wd_415 : Cond.sameField "StepsAhead$Call" "StepsAhead$Counted" "first" "[I" ∈ GT := GT_of 354 rfl rfl
set_option maxRecDepth 100000 in
theorem wd_416 : Cond.fieldLink "StepsAhead$Reckoner" 183 "StepsAhead$Call" "loopsAround" "I" ∈ GT := GT_of 270 rfl rfl
set_option maxRecDepth 100000 in
theorem wd_417 : Cond.sameField "StepsAhead$Call" "StepsAhead$Op" "loopsAround" "I" ∈ GT := GT_of 271 rfl rfl
set_option maxRecDepth 100000 in
theorem wd_418 : Cond.code (yn 80) (cod 80) (mxl 80) (rty 80) ∈ GT := GT_of 626 rfl rfl
set_option maxRecDepth 100000 in
theorem wd_419 : Cond.methodLink "StepsAhead$Reckoner" 166 (yn 80) ∈ GT := GT_of 623 rfl rfl
set_option maxRecDepth 100000 in
theorem wd_420 : Cond.instanceMethod (yn 80) ∈ GT := GT_of 624 rfl rfl
set_option maxRecDepth 100000 in
theorem wd_421 : Cond.selects "StepsAhead$Products" (yn 80) (yn 80) ∈ GT := GT_of 625 rfl rfl
set_option maxRecDepth 100000 in
theorem wd_422 : Cond.code (yn 81) (cod 81) (mxl 81) (rty 81) ∈ GT := GT_of 631 rfl rfl
set_option maxRecDepth 100000 in
theorem wd_423 : Cond.methodLink "StepsAhead$Reckoner" 184 (yn 81) ∈ GT := GT_of 628 rfl rfl
set_option maxRecDepth 100000 in
theorem wd_424 : Cond.instanceMethod (yn 81) ∈ GT := GT_of 630 rfl rfl
set_option maxRecDepth 100000 in
theorem wd_425 : Cond.selects "StepsAhead$Reckoner" (yn 81) (yn 81) ∈ GT := GT_sel 14 rfl rfl
set_option maxRecDepth 100000 in
theorem wd_426 : Cond.code (yn 82) (cod 82) (mxl 82) (rty 82) ∈ GT := GT_of 635 rfl rfl
set_option maxRecDepth 100000 in
theorem wd_427 : Cond.methodLink "StepsAhead$Reckoner" 118 (yn 82) ∈ GT := GT_of 632 rfl rfl
set_option maxRecDepth 100000 in
theorem wd_428 : Cond.instanceMethod (yn 82) ∈ GT := GT_of 634 rfl rfl
set_option maxRecDepth 100000 in
theorem wd_429 : Cond.selects "StepsAhead$Reckoner" (yn 82) (yn 82) ∈ GT := GT_sel 15 rfl rfl
set_option maxRecDepth 100000 in
theorem wd_430 : Cond.methodLink "StepsAhead$Reckoner" 191 Lib.Math.max.name ∈ GT := GT_of 614 rfl rfl
set_option maxRecDepth 100000 in
theorem wd_431 : Cond.static Lib.Math.max.name ∈ GT := GT_of 615 rfl rfl
set_option maxRecDepth 100000 in
theorem wd_432 : Cond.initialized "java/lang/Math" ∈ GT := GT_of 15 rfl rfl
set_option maxRecDepth 100000 in
theorem wd_433 : Cond.code Lib.Math.max.name Lib.Math.max.code 2 (some .int) ∈ GT := GT_of 616 rfl rfl
set_option maxRecDepth 100000 in
theorem wd_434 : Cond.methodLink "StepsAhead$Reckoner" 193 Lib.Math.min.name ∈ GT := GT_of 617 rfl rfl
set_option maxRecDepth 100000 in
theorem wd_435 : Cond.static Lib.Math.min.name ∈ GT := GT_of 618 rfl rfl
set_option maxRecDepth 100000 in
theorem wd_436 : Cond.code Lib.Math.min.name Lib.Math.min.code 2 (some .int) ∈ GT := GT_of 619 rfl rfl
set_option maxRecDepth 100000 in
theorem wd_437 : Cond.methodLink "StepsAhead$Products" 40 Lib.Math.min.name ∈ GT := GT_of 627 rfl rfl
set_option maxRecDepth 100000 in
theorem wd_438 : Cond.fieldLink "StepsAhead$Reckoner" 188 "StepsAhead$Call" "second" "[I" ∈ GT := GT_of 379 rfl rfl
set_option maxRecDepth 100000 in
theorem wd_439 : Cond.methodLink "StepsAhead$Reckoner" 109 Lib.MathLoose.max_long.x ∈ GT := GT_of 640 rfl rfl
set_option maxRecDepth 100000 in
theorem wd_440 : Cond.static Lib.MathLoose.max_long.x ∈ GT := GT_of 641 rfl rfl
set_option maxRecDepth 100000 in
theorem wd_441 : Cond.code Lib.MathLoose.max_long.x Lib.MathLoose.max_long.code 4 (some .long) ∈ GT := GT_of 642 rfl rfl
set_option maxRecDepth 100000 in
theorem wd_442 : Cond.methodLink "StepsAhead$Reckoner" 115 Lib.MathLoose.min_long.x ∈ GT := GT_of 643 rfl rfl
set_option maxRecDepth 100000 in
theorem wd_443 : Cond.static Lib.MathLoose.min_long.x ∈ GT := GT_of 644 rfl rfl
set_option maxRecDepth 100000 in
theorem wd_444 : Cond.code Lib.MathLoose.min_long.x Lib.MathLoose.min_long.code 4 (some .long) ∈ GT := GT_of 645 rfl rfl
set_option maxRecDepth 100000 in
theorem wd_445 : Cond.code (yn 87) (cod 87) (mxl 87) (rty 87) ∈ GT := GT_of 653 rfl rfl
set_option maxRecDepth 100000 in
theorem wd_446 : Cond.methodLink "StepsAhead$Reckoner" 121 (yn 87) ∈ GT := GT_of 651 rfl rfl
set_option maxRecDepth 100000 in
theorem wd_447 : Cond.static (yn 87) ∈ GT := GT_of 652 rfl rfl
set_option maxRecDepth 100000 in
theorem wd_448 : Cond.code (yn 88) (cod 88) (mxl 88) (rty 88) ∈ GT := GT_of 657 rfl rfl
set_option maxRecDepth 100000 in
theorem wd_449 : Cond.methodLink "StepsAhead$Reckoner" 125 (yn 88) ∈ GT := GT_of 654 rfl rfl
set_option maxRecDepth 100000 in
theorem wd_450 : Cond.instanceMethod (yn 88) ∈ GT := GT_of 655 rfl rfl
set_option maxRecDepth 100000 in
theorem wd_451 : Cond.selects "StepsAhead$Loop" (yn 88) (yn 88) ∈ GT := GT_of 656 rfl rfl
set_option maxRecDepth 100000 in
theorem wd_452 : Cond.code (yn 89) (cod 89) (mxl 89) (rty 89) ∈ GT := GT_of 661 rfl rfl
set_option maxRecDepth 100000 in
theorem wd_453 : Cond.methodLink "StepsAhead$Reckoner" 129 (yn 89) ∈ GT := GT_of 658 rfl rfl
set_option maxRecDepth 100000 in
theorem wd_454 : Cond.instanceMethod (yn 89) ∈ GT := GT_of 660 rfl rfl
set_option maxRecDepth 100000 in
theorem wd_455 : Cond.selects "StepsAhead$Reckoner" (yn 89) (yn 89) ∈ GT := GT_sel 18 rfl rfl
set_option maxRecDepth 100000 in
theorem wd_456 : Cond.code (yn 93) (cod 93) (mxl 93) (rty 93) ∈ GT := GT_of 677 rfl rfl
set_option maxRecDepth 100000 in
theorem wd_457 : Cond.methodLink "StepsAhead$Reckoner" 133 (yn 93) ∈ GT := GT_of 674 rfl rfl
set_option maxRecDepth 100000 in
theorem wd_458 : Cond.instanceMethod (yn 93) ∈ GT := GT_of 676 rfl rfl
set_option maxRecDepth 100000 in
theorem wd_459 : Cond.selects "StepsAhead$Reckoner" (yn 93) (yn 93) ∈ GT := GT_sel 19 rfl rfl
set_option maxRecDepth 100000 in
theorem wd_460 : Cond.fieldLink "StepsAhead$Loop" 18 "StepsAhead$Loop" "first" "[I" ∈ GT := GT_of 350 rfl rfl
set_option maxRecDepth 100000 in
theorem wd_461 : Cond.sameField "StepsAhead$Loop" "StepsAhead$Counted" "first" "[I" ∈ GT := GT_of 351 rfl rfl
set_option maxRecDepth 100000 in
theorem wd_462 : Cond.code (yn 90) (cod 90) (mxl 90) (rty 90) ∈ GT := GT_of 665 rfl rfl
set_option maxRecDepth 100000 in
theorem wd_463 : Cond.methodLink "StepsAhead$Reckoner" 136 (yn 90) ∈ GT := GT_of 662 rfl rfl
set_option maxRecDepth 100000 in
theorem wd_464 : Cond.instanceMethod (yn 90) ∈ GT := GT_of 663 rfl rfl
set_option maxRecDepth 100000 in
theorem wd_465 : Cond.selects "StepsAhead$Loop" (yn 90) (yn 90) ∈ GT := GT_of 664 rfl rfl
set_option maxRecDepth 100000 in
theorem wd_466 : Cond.code (yn 91) (cod 91) (mxl 91) (rty 91) ∈ GT := GT_of 669 rfl rfl
set_option maxRecDepth 100000 in
theorem wd_467 : Cond.methodLink "StepsAhead$Reckoner" 144 (yn 91) ∈ GT := GT_of 666 rfl rfl
set_option maxRecDepth 100000 in
theorem wd_468 : Cond.instanceMethod (yn 91) ∈ GT := GT_of 667 rfl rfl
set_option maxRecDepth 100000 in
theorem wd_469 : Cond.selects "StepsAhead$Products" (yn 91) (yn 91) ∈ GT := GT_of 668 rfl rfl
set_option maxRecDepth 100000 in
theorem wd_470 : Cond.fieldLink "StepsAhead$Reckoner" 148 "StepsAhead$Loop" "first" "[I" ∈ GT := GT_of 355 rfl rfl
set_option maxRecDepth 100000 in
theorem wd_471 : Cond.code (yn 92) (cod 92) (mxl 92) (rty 92) ∈ GT := GT_of 672 rfl rfl
set_option maxRecDepth 100000 in
theorem wd_472 : Cond.methodLink "StepsAhead$Reckoner" 151 (yn 92) ∈ GT := GT_of 670 rfl rfl
set_option maxRecDepth 100000 in
theorem wd_473 : Cond.static (yn 92) ∈ GT := GT_of 671 rfl rfl
set_option maxRecDepth 100000 in
theorem wd_474 : Cond.methodLink "StepsAhead$Reckoner" 155 (yn 8) ∈ GT := GT_of 673 rfl rfl
set_option maxRecDepth 100000 in
theorem wd_475 : Cond.code (yn 94) (cod 94) (mxl 94) (rty 94) ∈ GT := GT_of 681 rfl rfl
set_option maxRecDepth 100000 in
theorem wd_476 : Cond.methodLink "StepsAhead$Reckoner" 159 (yn 94) ∈ GT := GT_of 678 rfl rfl
set_option maxRecDepth 100000 in
theorem wd_477 : Cond.instanceMethod (yn 94) ∈ GT := GT_of 680 rfl rfl
set_option maxRecDepth 100000 in
theorem wd_478 : Cond.selects "StepsAhead$Reckoner" (yn 94) (yn 94) ∈ GT := GT_sel 20 rfl rfl
set_option maxRecDepth 100000 in
theorem wd_479 : Cond.fieldLink "StepsAhead$Reckoner" 163 "StepsAhead$Loop" "loopsAround" "I" ∈ GT := GT_of 269 rfl rfl
set_option maxRecDepth 100000 in
theorem wd_480 : Cond.constantLong "StepsAhead$Reckoner" 170 60 ∈ GT := GT_of 684 rfl rfl
set_option maxRecDepth 100000 in
theorem wd_481 : Cond.fieldLink "StepsAhead$Reckoner" 172 "StepsAhead$Reckoner" "SUMS" "[I" ∈ GT := GT_of 682 rfl rfl
set_option maxRecDepth 100000 in
theorem wd_482 : Cond.constantLong "StepsAhead" 164 (-1000001) ∈ GT := GT_of 698 rfl rfl
set_option maxRecDepth 100000 in
theorem wd_483 : Cond.code (yn 98) (cod 98) (mxl 98) (rty 98) ∈ GT := GT_of 702 rfl rfl
set_option maxRecDepth 100000 in
theorem wd_484 : Cond.methodLink "StepsAhead" 166 (yn 98) ∈ GT := GT_of 699 rfl rfl
set_option maxRecDepth 100000 in
theorem wd_485 : Cond.instanceMethod (yn 98) ∈ GT := GT_of 700 rfl rfl
set_option maxRecDepth 100000 in
theorem wd_486 : Cond.selects "StepsAhead$Routine" (yn 98) (yn 98) ∈ GT := GT_of 701 rfl rfl
set_option maxRecDepth 100000 in
theorem wd_487 : Cond.fieldLink "StepsAhead" 170 "StepsAhead$Routine" "formulas" "[[J" ∈ GT := GT_of 153 rfl rfl
set_option maxRecDepth 100000 in
theorem wd_488 : Cond.code (yn 99) (cod 99) (mxl 99) (rty 99) ∈ GT := GT_of 705 rfl rfl
set_option maxRecDepth 100000 in
theorem wd_489 : Cond.methodLink "StepsAhead" 174 (yn 99) ∈ GT := GT_of 703 rfl rfl
set_option maxRecDepth 100000 in
theorem wd_490 : Cond.static (yn 99) ∈ GT := GT_of 704 rfl rfl
set_option maxRecDepth 100000 in
theorem wd_491 : Cond.constantLong "StepsAhead" 178 8640 ∈ GT := GT_of 706 rfl rfl
set_option maxRecDepth 100000 in
theorem wd_492 : Cond.methodLink "StepsAhead" 236 Lib.MathLoose.abs_long.x ∈ GT := GT_of 707 rfl rfl
set_option maxRecDepth 100000 in
theorem wd_493 : Cond.static Lib.MathLoose.abs_long.x ∈ GT := GT_of 708 rfl rfl
set_option maxRecDepth 100000 in
theorem wd_494 : Cond.code Lib.MathLoose.abs_long.x Lib.MathLoose.abs_long.code 2 (some .long) ∈ GT := GT_of 709 rfl rfl
set_option maxRecDepth 100000 in
theorem wd_495 : Cond.methodLink "StepsAhead" 239 Lib.MathLoose.max_long.x ∈ GT := GT_of 710 rfl rfl
set_option maxRecDepth 100000 in
theorem wd_496 : Cond.code (yn 102) (cod 102) (mxl 102) (rty 102) ∈ GT := GT_of 717 rfl rfl
set_option maxRecDepth 100000 in
theorem wd_497 : Cond.methodLink "StepsAhead" 180 (yn 102) ∈ GT := GT_of 715 rfl rfl
set_option maxRecDepth 100000 in
theorem wd_498 : Cond.static (yn 102) ∈ GT := GT_of 716 rfl rfl
set_option maxRecDepth 100000 in
theorem wd_499 : Cond.code (yn 103) (cod 103) (mxl 103) (rty 103) ∈ GT := GT_of 721 rfl rfl
set_option maxRecDepth 100000 in
theorem wd_500 : Cond.methodLink "StepsAhead" 183 (yn 103) ∈ GT := GT_of 718 rfl rfl
set_option maxRecDepth 100000 in
theorem wd_501 : Cond.instanceMethod (yn 103) ∈ GT := GT_of 719 rfl rfl
set_option maxRecDepth 100000 in
theorem wd_502 : Cond.selects "StepsAhead$Routine" (yn 103) (yn 103) ∈ GT := GT_of 720 rfl rfl
set_option maxRecDepth 100000 in
theorem wd_503 : Cond.constantLong "StepsAhead$Routine" 91 8640 ∈ GT := GT_of 722 rfl rfl
set_option maxRecDepth 100000 in
theorem wd_504 : Cond.code (yn 104) (cod 104) (mxl 104) (rty 104) ∈ GT := GT_of 725 rfl rfl
set_option maxRecDepth 100000 in
theorem wd_505 : Cond.methodLink "StepsAhead$Routine" 93 (yn 104) ∈ GT := GT_of 723 rfl rfl
set_option maxRecDepth 100000 in
theorem wd_506 : Cond.static (yn 104) ∈ GT := GT_of 724 rfl rfl
set_option maxRecDepth 100000 in
theorem wd_507 : Cond.methodLink "StepsAhead" 187 Lib.Math.min.name ∈ GT := GT_of 730 rfl rfl
set_option maxRecDepth 100000 in
theorem wd_508 : Cond.code (yn 106) (cod 106) (mxl 106) (rty 106) ∈ GT := GT_of 734 rfl rfl
set_option maxRecDepth 100000 in
theorem wd_509 : Cond.methodLink "StepsAhead" 192 (yn 106) ∈ GT := GT_of 731 rfl rfl
set_option maxRecDepth 100000 in
theorem wd_510 : Cond.instanceMethod (yn 106) ∈ GT := GT_of 732 rfl rfl
set_option maxRecDepth 100000 in
theorem wd_511 : Cond.selects "StepsAhead$Routine" (yn 106) (yn 106) ∈ GT := GT_of 733 rfl rfl
set_option maxRecDepth 100000 in
theorem wd_512 : Cond.code (yn 108) (cod 108) (mxl 108) (rty 108) ∈ GT := GT_of 742 rfl rfl
set_option maxRecDepth 100000 in
theorem wd_513 : Cond.methodLink "StepsAhead" 202 (yn 108) ∈ GT := GT_of 739 rfl rfl
set_option maxRecDepth 100000 in
theorem wd_514 : Cond.instanceMethod (yn 108) ∈ GT := GT_of 740 rfl rfl
set_option maxRecDepth 100000 in
theorem wd_515 : Cond.selects "StepsAhead$Runner" (yn 108) (yn 108) ∈ GT := GT_of 741 rfl rfl
set_option maxRecDepth 100000 in
theorem wd_516 : Cond.code (yn 109) (cod 109) (mxl 109) (rty 109) ∈ GT := GT_of 746 rfl rfl
set_option maxRecDepth 100000 in
theorem wd_517 : Cond.methodLink "StepsAhead$Runner" 35 (yn 109) ∈ GT := GT_of 743 rfl rfl
set_option maxRecDepth 100000 in
theorem wd_518 : Cond.instanceMethod (yn 109) ∈ GT := GT_of 744 rfl rfl
set_option maxRecDepth 100000 in
theorem wd_519 : Cond.selects "StepsAhead$Routine" (yn 109) (yn 109) ∈ GT := GT_of 745 rfl rfl
set_option maxRecDepth 100000 in
theorem wd_520 : Cond.constant "StepsAhead$Runner" 41 10000000 ∈ GT := GT_of 748 rfl rfl
set_option maxRecDepth 100000 in
theorem wd_521 : Cond.code (yn 110) (cod 110) (mxl 110) (rty 110) ∈ GT := GT_of 752 rfl rfl
set_option maxRecDepth 100000 in
theorem wd_522 : Cond.methodLink "StepsAhead$Runner" 42 (yn 110) ∈ GT := GT_of 749 rfl rfl
set_option maxRecDepth 100000 in
theorem wd_523 : Cond.instanceMethod (yn 110) ∈ GT := GT_of 751 rfl rfl
set_option maxRecDepth 100000 in
theorem wd_524 : Cond.selects "StepsAhead$Runner" (yn 110) (yn 110) ∈ GT := GT_sel 22 rfl rfl
set_option maxRecDepth 100000 in
theorem wd_525 : Cond.constant "StepsAhead$Runner" 46 (-1000004) ∈ GT := GT_of 810 rfl rfl
set_option maxRecDepth 100000 in
theorem wd_526 : Cond.methodLink "StepsAhead$Routine" 99 (yn 73) ∈ GT := GT_of 747 rfl rfl
set_option maxRecDepth 100000 in
theorem wd_527 : Cond.methodLink "StepsAhead$Runner" 47 (yn 18) ∈ GT := GT_of 753 rfl rfl
set_option maxRecDepth 100000 in
theorem wd_528 : Cond.fieldLink "StepsAhead$Runner" 51 "StepsAhead$Routine" "placeInCaller" "I" ∈ GT := GT_of 162 rfl rfl
set_option maxRecDepth 100000 in
theorem wd_529 : Cond.fieldLink "StepsAhead$Runner" 54 "StepsAhead$Routine" "caller" "LStepsAhead$Routine;" ∈ GT := GT_of 160 rfl rfl
set_option maxRecDepth 100000 in
theorem wd_530 : Cond.classLink "StepsAhead$Runner" 57 "StepsAhead$Work" ∈ GT := GT_of 754 rfl rfl
set_option maxRecDepth 100000 in
theorem wd_531 : Cond.fieldLink "StepsAhead$Runner" 59 "StepsAhead$Work" "c" "I" ∈ GT := GT_of 255 rfl rfl
set_option maxRecDepth 100000 in
theorem wd_532 : Cond.classLink "StepsAhead$Runner" 62 "StepsAhead$Loop" ∈ GT := GT_of 755 rfl rfl
set_option maxRecDepth 100000 in
theorem wd_533 : Cond.fieldLink "StepsAhead$Runner" 64 "StepsAhead$Loop" "first" "[I" ∈ GT := GT_of 352 rfl rfl
set_option maxRecDepth 100000 in
theorem wd_534 : Cond.code (yn 111) (cod 111) (mxl 111) (rty 111) ∈ GT := GT_of 759 rfl rfl
set_option maxRecDepth 100000 in
theorem wd_535 : Cond.methodLink "StepsAhead$Runner" 68 (yn 111) ∈ GT := GT_of 756 rfl rfl
set_option maxRecDepth 100000 in
theorem wd_536 : Cond.instanceMethod (yn 111) ∈ GT := GT_of 757 rfl rfl
set_option maxRecDepth 100000 in
theorem wd_537 : Cond.selects "StepsAhead$Routine" (yn 111) (yn 111) ∈ GT := GT_of 758 rfl rfl
set_option maxRecDepth 100000 in
theorem wd_538 : Cond.code (yn 112) (cod 112) (mxl 112) (rty 112) ∈ GT := GT_of 763 rfl rfl
set_option maxRecDepth 100000 in
theorem wd_539 : Cond.methodLink "StepsAhead$Runner" 72 (yn 112) ∈ GT := GT_of 760 rfl rfl
set_option maxRecDepth 100000 in
theorem wd_540 : Cond.instanceMethod (yn 112) ∈ GT := GT_of 761 rfl rfl
set_option maxRecDepth 100000 in
theorem wd_541 : Cond.selects "StepsAhead$Routine" (yn 112) (yn 112) ∈ GT := GT_of 762 rfl rfl
set_option maxRecDepth 100000 in
theorem wd_542 : Cond.code (yn 113) (cod 113) (mxl 113) (rty 113) ∈ GT := GT_of 768 rfl rfl
set_option maxRecDepth 100000 in
theorem wd_543 : Cond.methodLink "StepsAhead$Runner" 76 (yn 113) ∈ GT := GT_of 765 rfl rfl
set_option maxRecDepth 100000 in
theorem wd_544 : Cond.instanceMethod (yn 113) ∈ GT := GT_of 767 rfl rfl
set_option maxRecDepth 100000 in
theorem wd_545 : Cond.selects "StepsAhead$Runner" (yn 113) (yn 113) ∈ GT := GT_sel 23 rfl rfl
set_option maxRecDepth 100000 in
theorem wd_546 : Cond.classLink "StepsAhead$Runner" 80 "StepsAhead$Call" ∈ GT := GT_of 781 rfl rfl
set_option maxRecDepth 100000 in
theorem wd_547 : Cond.code (yn 117) (cod 117) (mxl 117) (rty 117) ∈ GT := GT_of 785 rfl rfl
set_option maxRecDepth 100000 in
theorem wd_548 : Cond.methodLink "StepsAhead$Runner" 82 (yn 117) ∈ GT := GT_of 782 rfl rfl
set_option maxRecDepth 100000 in
theorem wd_549 : Cond.instanceMethod (yn 117) ∈ GT := GT_of 784 rfl rfl
set_option maxRecDepth 100000 in
theorem wd_550 : Cond.selects "StepsAhead$Runner" (yn 117) (yn 117) ∈ GT := GT_sel 25 rfl rfl
set_option maxRecDepth 100000 in
theorem wd_551 : Cond.classLink "StepsAhead$Runner" 86 "StepsAhead$Either" ∈ GT := GT_of 786 rfl rfl
set_option maxRecDepth 100000 in
theorem wd_552 : Cond.code (yn 118) (cod 118) (mxl 118) (rty 118) ∈ GT := GT_of 790 rfl rfl
set_option maxRecDepth 100000 in
theorem wd_553 : Cond.methodLink "StepsAhead$Runner" 88 (yn 118) ∈ GT := GT_of 787 rfl rfl
set_option maxRecDepth 100000 in
theorem wd_554 : Cond.instanceMethod (yn 118) ∈ GT := GT_of 789 rfl rfl
set_option maxRecDepth 100000 in
theorem wd_555 : Cond.selects "StepsAhead$Runner" (yn 118) (yn 118) ∈ GT := GT_sel 26 rfl rfl
set_option maxRecDepth 100000 in
theorem wd_556 : Cond.fieldLink "StepsAhead$Runner" 92 "StepsAhead$Op" "opener" "I" ∈ GT := GT_of 274 rfl rfl
set_option maxRecDepth 100000 in
theorem wd_557 : Cond.code (yn 121) (cod 121) (mxl 121) (rty 121) ∈ GT := GT_of 803 rfl rfl
set_option maxRecDepth 100000 in
theorem wd_558 : Cond.methodLink "StepsAhead$Runner" 97 (yn 121) ∈ GT := GT_of 800 rfl rfl
set_option maxRecDepth 100000 in
theorem wd_559 : Cond.instanceMethod (yn 121) ∈ GT := GT_of 802 rfl rfl
set_option maxRecDepth 100000 in
theorem wd_560 : Cond.selects "StepsAhead$Runner" (yn 121) (yn 121) ∈ GT := GT_sel 29 rfl rfl
set_option maxRecDepth 100000 in
theorem wd_561 : Cond.methodLink "StepsAhead$Routine" 105 (yn 90) ∈ GT := GT_of 764 rfl rfl
set_option maxRecDepth 100000 in
theorem wd_562 : Cond.code (yn 114) (cod 114) (mxl 114) (rty 114) ∈ GT := GT_of 772 rfl rfl
set_option maxRecDepth 100000 in
theorem wd_563 : Cond.methodLink "StepsAhead$Runner" 115 (yn 114) ∈ GT := GT_of 769 rfl rfl
set_option maxRecDepth 100000 in
theorem wd_564 : Cond.instanceMethod (yn 114) ∈ GT := GT_of 770 rfl rfl
set_option maxRecDepth 100000 in
theorem wd_565 : Cond.selects "StepsAhead$Routine" (yn 114) (yn 114) ∈ GT := GT_of 771 rfl rfl
set_option maxRecDepth 100000 in
theorem wd_566 : Cond.code (yn 115) (cod 115) (mxl 115) (rty 115) ∈ GT := GT_of 776 rfl rfl
set_option maxRecDepth 100000 in
theorem wd_567 : Cond.methodLink "StepsAhead$Runner" 119 (yn 115) ∈ GT := GT_of 773 rfl rfl
set_option maxRecDepth 100000 in
theorem wd_568 : Cond.instanceMethod (yn 115) ∈ GT := GT_of 774 rfl rfl
set_option maxRecDepth 100000 in
theorem wd_569 : Cond.selects "StepsAhead$Routine" (yn 115) (yn 115) ∈ GT := GT_of 775 rfl rfl
set_option maxRecDepth 100000 in
theorem wd_570 : Cond.fieldLink "StepsAhead$Runner" 122 "StepsAhead$Loop" "end" "I" ∈ GT := GT_of 348 rfl rfl
set_option maxRecDepth 100000 in
theorem wd_571 : Cond.code (yn 116) (cod 116) (mxl 116) (rty 116) ∈ GT := GT_of 780 rfl rfl
set_option maxRecDepth 100000 in
theorem wd_572 : Cond.methodLink "StepsAhead$Runner" 125 (yn 116) ∈ GT := GT_of 777 rfl rfl
set_option maxRecDepth 100000 in
theorem wd_573 : Cond.instanceMethod (yn 116) ∈ GT := GT_of 779 rfl rfl
set_option maxRecDepth 100000 in
theorem wd_574 : Cond.selects "StepsAhead$Runner" (yn 116) (yn 116) ∈ GT := GT_sel 24 rfl rfl
set_option maxRecDepth 100000 in
theorem wd_575 : Cond.fieldLink "StepsAhead$Runner" 128 "StepsAhead$Loop" "place" "I" ∈ GT := GT_of 262 rfl rfl
set_option maxRecDepth 100000 in
theorem wd_576 : Cond.sameField "StepsAhead$Loop" "StepsAhead$Op" "place" "I" ∈ GT := GT_of 263 rfl rfl
set_option maxRecDepth 100000 in
theorem wd_577 : Cond.fieldLink "StepsAhead$Runner" 129 "StepsAhead$Call" "target" "LStepsAhead$Routine;" ∈ GT := GT_of 381 rfl rfl
set_option maxRecDepth 100000 in
theorem wd_578 : Cond.fieldLink "StepsAhead$Runner" 132 "StepsAhead$Call" "first" "[I" ∈ GT := GT_of 353 rfl rfl
set_option maxRecDepth 100000 in
theorem wd_579 : Cond.fieldLink "StepsAhead$Runner" 133 "StepsAhead$Call" "second" "[I" ∈ GT := GT_of 378 rfl rfl
set_option maxRecDepth 100000 in
theorem wd_580 : Cond.code (yn 119) (cod 119) (mxl 119) (rty 119) ∈ GT := GT_of 794 rfl rfl
set_option maxRecDepth 100000 in
theorem wd_581 : Cond.methodLink "StepsAhead$Runner" 101 (yn 119) ∈ GT := GT_of 791 rfl rfl
set_option maxRecDepth 100000 in
theorem wd_582 : Cond.instanceMethod (yn 119) ∈ GT := GT_of 793 rfl rfl
set_option maxRecDepth 100000 in
theorem wd_583 : Cond.selects "StepsAhead$Runner" (yn 119) (yn 119) ∈ GT := GT_sel 27 rfl rfl
set_option maxRecDepth 100000 in
theorem wd_584 : Cond.fieldLink "StepsAhead$Runner" 136 "StepsAhead$Either" "stepsBefore" "I" ∈ GT := GT_of 409 rfl rfl
set_option maxRecDepth 100000 in
theorem wd_585 : Cond.code (yn 120) (cod 120) (mxl 120) (rty 120) ∈ GT := GT_of 798 rfl rfl
set_option maxRecDepth 100000 in
theorem wd_586 : Cond.methodLink "StepsAhead$Runner" 139 (yn 120) ∈ GT := GT_of 795 rfl rfl
set_option maxRecDepth 100000 in
theorem wd_587 : Cond.instanceMethod (yn 120) ∈ GT := GT_of 797 rfl rfl
set_option maxRecDepth 100000 in
theorem wd_588 : Cond.selects "StepsAhead$Runner" (yn 120) (yn 120) ∈ GT := GT_sel 28 rfl rfl
set_option maxRecDepth 100000 in
theorem wd_589 : Cond.fieldLink "StepsAhead$Runner" 142 "StepsAhead$Either" "or" "I" ∈ GT := GT_of 405 rfl rfl
set_option maxRecDepth 100000 in
theorem wd_590 : Cond.constant "StepsAhead$Runner" 145 1103515245 ∈ GT := GT_of 799 rfl rfl
set_option maxRecDepth 100000 in
theorem wd_591 : Cond.fieldLink "StepsAhead$Runner" 105 "StepsAhead$Op" "ownKind" "I" ∈ GT := GT_of 258 rfl rfl
set_option maxRecDepth 100000 in
theorem wd_592 : Cond.code (yn 122) (cod 122) (mxl 122) (rty 122) ∈ GT := GT_of 807 rfl rfl
set_option maxRecDepth 100000 in
theorem wd_593 : Cond.methodLink "StepsAhead$Runner" 108 (yn 122) ∈ GT := GT_of 804 rfl rfl
set_option maxRecDepth 100000 in
theorem wd_594 : Cond.instanceMethod (yn 122) ∈ GT := GT_of 806 rfl rfl
set_option maxRecDepth 100000 in
theorem wd_595 : Cond.selects "StepsAhead$Runner" (yn 122) (yn 122) ∈ GT := GT_sel 30 rfl rfl
set_option maxRecDepth 100000 in
theorem wd_596 : Cond.fieldLink "StepsAhead$Runner" 112 "StepsAhead$Either" "done" "I" ∈ GT := GT_of 407 rfl rfl
set_option maxRecDepth 100000 in
theorem wd_597 : Cond.fieldLink "StepsAhead$Runner" 146 "StepsAhead$Either" "stepsOfFirst" "I" ∈ GT := GT_of 411 rfl rfl
set_option maxRecDepth 100000 in
theorem wd_598 : Cond.methodLink "StepsAhead$Runner" 149 Lib.Math.max.name ∈ GT := GT_of 808 rfl rfl
set_option maxRecDepth 100000 in
theorem wd_599 : Cond.methodLink "StepsAhead$Runner" 155 Lib.Math.min.name ∈ GT := GT_of 809 rfl rfl
set_option maxRecDepth 100000 in
theorem wd_600 : Cond.fieldLink "StepsAhead" 206 "StepsAhead$Runner" "lotNow" "I" ∈ GT := GT_of 110 rfl rfl
set_option maxRecDepth 100000 in
theorem wd_601 : Cond.constant "StepsAhead" 209 (-1000000) ∈ GT := GT_of 819 rfl rfl
set_option maxRecDepth 100000 in
theorem wd_602 : Cond.code (yn 126) (cod 126) (mxl 126) (rty 126) ∈ GT := GT_of 827 rfl rfl
set_option maxRecDepth 100000 in
theorem wd_603 : Cond.methodLink "StepsAhead" 213 (yn 126) ∈ GT := GT_of 824 rfl rfl
set_option maxRecDepth 100000 in
theorem wd_604 : Cond.instanceMethod (yn 126) ∈ GT := GT_of 825 rfl rfl
set_option maxRecDepth 100000 in
theorem wd_605 : Cond.selects "StepsAhead$Routine" (yn 126) (yn 126) ∈ GT := GT_of 826 rfl rfl
set_option maxRecDepth 100000 in
theorem wd_606 : Cond.methodLink "StepsAheadModel" 1 Lib.objectInit ∈ GT := GT_of 833 rfl rfl
set_option maxRecDepth 100000 in
theorem wd_607 : Cond.fieldLink "StepsAheadModel" 7 "StepsAheadModel" "many" "[I" ∈ GT := GT_of 835 rfl rfl
set_option maxRecDepth 100000 in
theorem wd_608 : Cond.fieldLink "StepsAheadModel" 13 "StepsAheadModel" "kind" "[I" ∈ GT := GT_of 836 rfl rfl
set_option maxRecDepth 100000 in
theorem wd_609 : Cond.fieldLink "StepsAheadModel" 16 "StepsAheadModel" "work" "[I" ∈ GT := GT_of 837 rfl rfl
set_option maxRecDepth 100000 in
theorem wd_610 : Cond.fieldLink "StepsAheadModel" 19 "StepsAheadModel" "called" "[I" ∈ GT := GT_of 838 rfl rfl
set_option maxRecDepth 100000 in
theorem wd_611 : Cond.fieldLink "StepsAheadModel" 22 "StepsAheadModel" "told" "[I" ∈ GT := GT_of 839 rfl rfl
set_option maxRecDepth 100000 in
theorem wd_612 : Cond.fieldLink "StepsAheadModel" 25 "StepsAheadModel" "next" "[I" ∈ GT := GT_of 840 rfl rfl
set_option maxRecDepth 100000 in
theorem wd_613 : Cond.fieldLink "StepsAheadModel" 28 "StepsAheadModel" "lot" "I" ∈ GT := GT_of 841 rfl rfl
set_option maxRecDepth 100000 in
theorem wd_614 : Cond.fieldLink "StepsAheadModel" 32 "StepsAheadModel" "trace" "[I" ∈ GT := GT_of 842 rfl rfl
set_option maxRecDepth 100000 in
theorem wd_615 : Cond.fieldLink "StepsAheadModel" 35 "StepsAheadModel" "powers" "[I" ∈ GT := GT_of 845 rfl rfl
set_option maxRecDepth 100000 in
theorem wd_616 : Cond.fieldLink "StepsAheadModel" 38 "StepsAheadModel" "rowOf" "[I" ∈ GT := GT_of 846 rfl rfl
set_option maxRecDepth 100000 in
theorem wd_617 : Cond.fieldLink "StepsAheadModel" 41 "StepsAheadModel" "openKind" "[I" ∈ GT := GT_of 848 rfl rfl
set_option maxRecDepth 100000 in
theorem wd_618 : Cond.fieldLink "StepsAheadModel" 44 "StepsAheadModel" "openAt" "[I" ∈ GT := GT_of 849 rfl rfl
set_option maxRecDepth 100000 in
theorem wd_619 : Cond.fieldLink "StepsAheadModel" 47 "StepsAheadModel" "poly" "[J" ∈ GT := GT_of 851 rfl rfl
set_option maxRecDepth 100000 in
theorem wd_620 : Cond.arrayClass .boolean ∈ GT := GT_of 955 rfl rfl
set_option maxRecDepth 100000 in
theorem wd_621 : Cond.fieldLink "StepsAheadModel" 51 "StepsAheadModel" "isWhole" "[Z" ∈ GT := GT_of 852 rfl rfl
set_option maxRecDepth 100000 in
theorem wd_622 : Cond.fieldLink "StepsAheadModel" 55 "StepsAheadModel" "isClosed" "[Z" ∈ GT := GT_of 853 rfl rfl
set_option maxRecDepth 100000 in
theorem wd_623 : Cond.fieldLink "StepsAheadModel" 58 "StepsAheadModel" "isFull" "[Z" ∈ GT := GT_of 854 rfl rfl
set_option maxRecDepth 100000 in
theorem wd_624 : Cond.fieldLink "StepsAheadModel" 61 "StepsAheadModel" "made" "[J" ∈ GT := GT_of 855 rfl rfl
set_option maxRecDepth 100000 in
theorem wd_625 : Cond.fieldLink "StepsAheadModel" 64 "StepsAheadModel" "other" "[J" ∈ GT := GT_of 856 rfl rfl
set_option maxRecDepth 100000 in
theorem wd_626 : Cond.fieldLink "StepsAheadModel" 67 "StepsAheadModel" "sums" "[I" ∈ GT := GT_of 857 rfl rfl
set_option maxRecDepth 100000 in
theorem wd_627 : Cond.fieldLink "StepsAheadModel" 70 "StepsAheadModel" "pileOp" "[I" ∈ GT := GT_of 858 rfl rfl
set_option maxRecDepth 100000 in
theorem wd_628 : Cond.fieldLink "StepsAheadModel" 73 "StepsAheadModel" "pileRow" "[I" ∈ GT := GT_of 859 rfl rfl
set_option maxRecDepth 100000 in
theorem wd_629 : Cond.fieldLink "StepsAheadModel" 76 "StepsAheadModel" "counter" "[I" ∈ GT := GT_of 866 rfl rfl
set_option maxRecDepth 100000 in
theorem wd_630 : Cond.fieldLink "StepsAheadModel" 79 "StepsAheadModel" "runOp" "[I" ∈ GT := GT_of 868 rfl rfl
set_option maxRecDepth 100000 in
theorem wd_631 : Cond.fieldLink "StepsAheadModel" 82 "StepsAheadModel" "runCount" "[I" ∈ GT := GT_of 869 rfl rfl
set_option maxRecDepth 100000 in
theorem wd_632 : Cond.fieldLink "StepsAheadModel" 85 "StepsAheadModel" "runEnd" "[I" ∈ GT := GT_of 870 rfl rfl
set_option maxRecDepth 100000 in
theorem wd_633 : Cond.fieldLink "StepsAheadModel" 88 "StepsAheadModel" "runSteps" "[J" ∈ GT := GT_of 871 rfl rfl
set_option maxRecDepth 100000 in
theorem wd_634 : Cond.fieldLink "StepsAheadModel" 91 "StepsAheadModel" "runOther" "[J" ∈ GT := GT_of 872 rfl rfl
set_option maxRecDepth 100000 in
theorem wd_635 : Cond.fieldLink "StepsAheadModel" 94 "StepsAheadModel" "kept" "[I" ∈ GT := GT_of 873 rfl rfl
set_option maxRecDepth 100000 in
theorem wd_636 : Cond.fieldLink "StepsAheadModel" 97 "StepsAheadModel" "routines" "I" ∈ GT := GT_of 834 rfl rfl
set_option maxRecDepth 100000 in
theorem wd_637 : Cond.constant "StepsAheadModel" 104 (-1000003) ∈ GT := GT_of 960 rfl rfl
set_option maxRecDepth 100000 in
theorem wd_638 : Cond.fieldLink "StepsAheadModel" 105 "StepsAheadModel" "isKnown" "Z" ∈ GT := GT_of 844 rfl rfl
set_option maxRecDepth 100000 in
theorem wd_639 : Cond.code (yn 130) (cod 130) (mxl 130) (rty 130) ∈ GT := GT_of 967 rfl rfl
set_option maxRecDepth 100000 in
theorem wd_640 : Cond.initialized "StepsAheadModel" ∈ GT := GT_of 8 rfl rfl
set_option maxRecDepth 100000 in
theorem wd_641 : Cond.methodLink "StepsAheadModel" 100 (yn 130) ∈ GT := GT_of 965 rfl rfl
set_option maxRecDepth 100000 in
theorem wd_642 : Cond.static (yn 130) ∈ GT := GT_of 966 rfl rfl
set_option maxRecDepth 100000 in
theorem wd_643 : Cond.constantLong "StepsAheadModel" 109 2 ∈ GT := GT_of 968 rfl rfl
set_option maxRecDepth 100000 in
theorem wd_644 : Cond.constant "StepsAheadModel" 111 (-1000001) ∈ GT := GT_of 969 rfl rfl
set_option maxRecDepth 100000 in
theorem wd_645 : Cond.code (yn 132) (cod 132) (mxl 132) (rty 132) ∈ GT := GT_of 977 rfl rfl
set_option maxRecDepth 100000 in
theorem wd_646 : Cond.methodLink "StepsAheadModel" 118 (yn 132) ∈ GT := GT_of 974 rfl rfl
set_option maxRecDepth 100000 in
theorem wd_647 : Cond.instanceMethod (yn 132) ∈ GT := GT_of 976 rfl rfl
set_option maxRecDepth 100000 in
theorem wd_648 : Cond.selects "StepsAheadModel" (yn 132) (yn 132) ∈ GT := GT_sel 31 rfl rfl
set_option maxRecDepth 100000 in
theorem wd_649 : Cond.constantLong "StepsAheadModel" 122 99 ∈ GT := GT_of 978 rfl rfl
set_option maxRecDepth 100000 in
theorem wd_650 : Cond.constant "StepsAheadModel" 124 (-1000000) ∈ GT := GT_of 979 rfl rfl
set_option maxRecDepth 100000 in
theorem wd_651 : Cond.code (yn 133) (cod 133) (mxl 133) (rty 133) ∈ GT := GT_of 983 rfl rfl
set_option maxRecDepth 100000 in
theorem wd_652 : Cond.methodLink "StepsAheadModel" 125 (yn 133) ∈ GT := GT_of 980 rfl rfl
set_option maxRecDepth 100000 in
theorem wd_653 : Cond.instanceMethod (yn 133) ∈ GT := GT_of 982 rfl rfl
set_option maxRecDepth 100000 in
theorem wd_654 : Cond.selects "StepsAheadModel" (yn 133) (yn 133) ∈ GT := GT_sel 32 rfl rfl
set_option maxRecDepth 100000 in
theorem wd_655 : Cond.code (yn 135) (cod 135) (mxl 135) (rty 135) ∈ GT := GT_of 991 rfl rfl
set_option maxRecDepth 100000 in
theorem wd_656 : Cond.methodLink "StepsAheadModel" 129 (yn 135) ∈ GT := GT_of 988 rfl rfl
set_option maxRecDepth 100000 in
theorem wd_657 : Cond.instanceMethod (yn 135) ∈ GT := GT_of 990 rfl rfl
set_option maxRecDepth 100000 in
theorem wd_658 : Cond.selects "StepsAheadModel" (yn 135) (yn 135) ∈ GT := GT_sel 33 rfl rfl
set_option maxRecDepth 100000 in
theorem wd_659 : Cond.fieldLink "StepsAheadModel" 115 "StepsAheadModel" "openLoops" "I" ∈ GT := GT_of 850 rfl rfl
set_option maxRecDepth 100000 in
theorem wd_660 : Cond.constant "StepsAheadModel" 133 (-1000002) ∈ GT := GT_of 992 rfl rfl
set_option maxRecDepth 100000 in
theorem wd_661 : Cond.fieldLink "StepsAheadModel" 112 "StepsAheadModel" "open" "I" ∈ GT := GT_of 847 rfl rfl
set_option maxRecDepth 100000 in
theorem wd_662 : Cond.constantLong "StepsAheadModel" 134 6 ∈ GT := GT_of 1005 rfl rfl
set_option maxRecDepth 100000 in
theorem wd_663 : Cond.constantLong "StepsAheadModel" 136 8 ∈ GT := GT_of 1006 rfl rfl
set_option maxRecDepth 100000 in
theorem wd_664 : Cond.code (yn 141) (cod 141) (mxl 141) (rty 141) ∈ GT := GT_of 1018 rfl rfl
set_option maxRecDepth 100000 in
theorem wd_665 : Cond.methodLink "StepsAheadModel" 138 (yn 141) ∈ GT := GT_of 1015 rfl rfl
set_option maxRecDepth 100000 in
theorem wd_666 : Cond.instanceMethod (yn 141) ∈ GT := GT_of 1017 rfl rfl
set_option maxRecDepth 100000 in
theorem wd_667 : Cond.selects "StepsAheadModel" (yn 141) (yn 141) ∈ GT := GT_sel 34 rfl rfl
set_option maxRecDepth 100000 in
theorem wd_668 : Cond.code (yn 143) (cod 143) (mxl 143) (rty 143) ∈ GT := GT_of 1025 rfl rfl
set_option maxRecDepth 100000 in
theorem wd_669 : Cond.methodLink "StepsAheadModel" 142 (yn 143) ∈ GT := GT_of 1023 rfl rfl
set_option maxRecDepth 100000 in
theorem wd_670 : Cond.static (yn 143) ∈ GT := GT_of 1024 rfl rfl
set_option maxRecDepth 100000 in
theorem wd_671 : Cond.constantLong "StepsAheadModel" 145 5 ∈ GT := GT_of 1030 rfl rfl
set_option maxRecDepth 100000 in
theorem wd_672 : Cond.constant "StepsAheadModel" 147 (-1000005) ∈ GT := GT_of 1031 rfl rfl
set_option maxRecDepth 100000 in
theorem wd_673 : Cond.fieldLink "StepsAheadModel" 148 "StepsAheadModel" "traced" "I" ∈ GT := GT_of 843 rfl rfl
set_option maxRecDepth 100000 in
theorem wd_674 : Cond.code (yn 146) (cod 146) (mxl 146) (rty 146) ∈ GT := GT_of 1039 rfl rfl
set_option maxRecDepth 100000 in
theorem wd_675 : Cond.methodLink "StepsAheadModel" 159 (yn 146) ∈ GT := GT_of 1036 rfl rfl
set_option maxRecDepth 100000 in
theorem wd_676 : Cond.instanceMethod (yn 146) ∈ GT := GT_of 1038 rfl rfl
set_option maxRecDepth 100000 in
theorem wd_677 : Cond.selects "StepsAheadModel" (yn 146) (yn 146) ∈ GT := GT_sel 35 rfl rfl
set_option maxRecDepth 100000 in
theorem wd_678 : Cond.code (yn 149) (cod 149) (mxl 149) (rty 149) ∈ GT := GT_of 1051 rfl rfl
set_option maxRecDepth 100000 in
theorem wd_679 : Cond.methodLink "StepsAheadModel" 163 (yn 149) ∈ GT := GT_of 1048 rfl rfl
set_option maxRecDepth 100000 in
theorem wd_680 : Cond.instanceMethod (yn 149) ∈ GT := GT_of 1050 rfl rfl
set_option maxRecDepth 100000 in
theorem wd_681 : Cond.selects "StepsAheadModel" (yn 149) (yn 149) ∈ GT := GT_sel 38 rfl rfl
set_option maxRecDepth 100000 in
theorem wd_682 : Cond.code (yn 147) (cod 147) (mxl 147) (rty 147) ∈ GT := GT_of 1043 rfl rfl
set_option maxRecDepth 100000 in
theorem wd_683 : Cond.methodLink "StepsAheadModel" 151 (yn 147) ∈ GT := GT_of 1040 rfl rfl
set_option maxRecDepth 100000 in
theorem wd_684 : Cond.instanceMethod (yn 147) ∈ GT := GT_of 1042 rfl rfl
set_option maxRecDepth 100000 in
theorem wd_685 : Cond.selects "StepsAheadModel" (yn 147) (yn 147) ∈ GT := GT_sel 36 rfl rfl
set_option maxRecDepth 100000 in
theorem wd_686 : Cond.code (yn 148) (cod 148) (mxl 148) (rty 148) ∈ GT := GT_of 1047 rfl rfl
set_option maxRecDepth 100000 in
theorem wd_687 : Cond.methodLink "StepsAheadModel" 155 (yn 148) ∈ GT := GT_of 1044 rfl rfl
set_option maxRecDepth 100000 in
theorem wd_688 : Cond.instanceMethod (yn 148) ∈ GT := GT_of 1046 rfl rfl
set_option maxRecDepth 100000 in
theorem wd_689 : Cond.selects "StepsAheadModel" (yn 148) (yn 148) ∈ GT := GT_sel 37 rfl rfl
set_option maxRecDepth 100000 in
theorem wd_690 : Cond.code (yn 152) (cod 152) (mxl 152) (rty 152) ∈ GT := GT_of 1063 rfl rfl
set_option maxRecDepth 100000 in
theorem wd_691 : Cond.methodLink "StepsAheadModel" 209 (yn 152) ∈ GT := GT_of 1060 rfl rfl
set_option maxRecDepth 100000 in
theorem wd_692 : Cond.instanceMethod (yn 152) ∈ GT := GT_of 1062 rfl rfl
set_option maxRecDepth 100000 in
theorem wd_693 : Cond.selects "StepsAheadModel" (yn 152) (yn 152) ∈ GT := GT_sel 39 rfl rfl
set_option maxRecDepth 100000 in
theorem wd_694 : Cond.code (yn 164) (cod 164) (mxl 164) (rty 164) ∈ GT := GT_of 1114 rfl rfl
set_option maxRecDepth 100000 in
theorem wd_695 : Cond.methodLink "StepsAheadModel" 212 (yn 164) ∈ GT := GT_of 1111 rfl rfl
set_option maxRecDepth 100000 in
theorem wd_696 : Cond.instanceMethod (yn 164) ∈ GT := GT_of 1113 rfl rfl
set_option maxRecDepth 100000 in
theorem wd_697 : Cond.selects "StepsAheadModel" (yn 164) (yn 164) ∈ GT := GT_sel 50 rfl rfl
set_option maxRecDepth 100000 in
theorem wd_698 : Cond.code (yn 153) (cod 153) (mxl 153) (rty 153) ∈ GT := GT_of 1067 rfl rfl
set_option maxRecDepth 100000 in
theorem wd_699 : Cond.methodLink "StepsAheadModel" 206 (yn 153) ∈ GT := GT_of 1064 rfl rfl
set_option maxRecDepth 100000 in
theorem wd_700 : Cond.instanceMethod (yn 153) ∈ GT := GT_of 1066 rfl rfl
set_option maxRecDepth 100000 in
theorem wd_701 : Cond.selects "StepsAheadModel" (yn 153) (yn 153) ∈ GT := GT_sel 40 rfl rfl
set_option maxRecDepth 100000 in
theorem wd_702 : Cond.code (yn 154) (cod 154) (mxl 154) (rty 154) ∈ GT := GT_of 1071 rfl rfl
set_option maxRecDepth 100000 in
theorem wd_703 : Cond.methodLink "StepsAheadModel" 203 (yn 154) ∈ GT := GT_of 1068 rfl rfl
set_option maxRecDepth 100000 in
theorem wd_704 : Cond.instanceMethod (yn 154) ∈ GT := GT_of 1070 rfl rfl
set_option maxRecDepth 100000 in
theorem wd_705 : Cond.selects "StepsAheadModel" (yn 154) (yn 154) ∈ GT := GT_sel 41 rfl rfl
set_option maxRecDepth 100000 in
theorem wd_706 : Cond.code (yn 155) (cod 155) (mxl 155) (rty 155) ∈ GT := GT_of 1075 rfl rfl
set_option maxRecDepth 100000 in
theorem wd_707 : Cond.methodLink "StepsAheadModel" 166 (yn 155) ∈ GT := GT_of 1072 rfl rfl
set_option maxRecDepth 100000 in
theorem wd_708 : Cond.instanceMethod (yn 155) ∈ GT := GT_of 1074 rfl rfl
set_option maxRecDepth 100000 in
theorem wd_709 : Cond.selects "StepsAheadModel" (yn 155) (yn 155) ∈ GT := GT_sel 42 rfl rfl
set_option maxRecDepth 100000 in
theorem wd_710 : Cond.constantLong "StepsAheadModel" 191 8640 ∈ GT := GT_of 1076 rfl rfl
set_option maxRecDepth 100000 in
theorem wd_711 : Cond.code (yn 156) (cod 156) (mxl 156) (rty 156) ∈ GT := GT_of 1080 rfl rfl
set_option maxRecDepth 100000 in
theorem wd_712 : Cond.methodLink "StepsAheadModel" 193 (yn 156) ∈ GT := GT_of 1077 rfl rfl
set_option maxRecDepth 100000 in
theorem wd_713 : Cond.instanceMethod (yn 156) ∈ GT := GT_of 1079 rfl rfl
set_option maxRecDepth 100000 in
theorem wd_714 : Cond.selects "StepsAheadModel" (yn 156) (yn 156) ∈ GT := GT_sel 43 rfl rfl
set_option maxRecDepth 100000 in
theorem wd_715 : Cond.code (yn 158) (cod 158) (mxl 158) (rty 158) ∈ GT := GT_of 1090 rfl rfl
set_option maxRecDepth 100000 in
theorem wd_716 : Cond.methodLink "StepsAheadModel" 196 (yn 158) ∈ GT := GT_of 1087 rfl rfl
set_option maxRecDepth 100000 in
theorem wd_717 : Cond.instanceMethod (yn 158) ∈ GT := GT_of 1089 rfl rfl
set_option maxRecDepth 100000 in
theorem wd_718 : Cond.selects "StepsAheadModel" (yn 158) (yn 158) ∈ GT := GT_sel 45 rfl rfl
set_option maxRecDepth 100000 in
theorem wd_719 : Cond.code (yn 163) (cod 163) (mxl 163) (rty 163) ∈ GT := GT_of 1110 rfl rfl
set_option maxRecDepth 100000 in
theorem wd_720 : Cond.methodLink "StepsAheadModel" 200 (yn 163) ∈ GT := GT_of 1107 rfl rfl
set_option maxRecDepth 100000 in
theorem wd_721 : Cond.instanceMethod (yn 163) ∈ GT := GT_of 1109 rfl rfl
set_option maxRecDepth 100000 in
theorem wd_722 : Cond.selects "StepsAheadModel" (yn 163) (yn 163) ∈ GT := GT_sel 49 rfl rfl
set_option maxRecDepth 100000 in
theorem wd_723 : Cond.code (yn 157) (cod 157) (mxl 157) (rty 157) ∈ GT := GT_of 1084 rfl rfl
set_option maxRecDepth 100000 in
theorem wd_724 : Cond.methodLink "StepsAheadModel" 188 (yn 157) ∈ GT := GT_of 1081 rfl rfl
set_option maxRecDepth 100000 in
theorem wd_725 : Cond.instanceMethod (yn 157) ∈ GT := GT_of 1083 rfl rfl
set_option maxRecDepth 100000 in
theorem wd_726 : Cond.selects "StepsAheadModel" (yn 157) (yn 157) ∈ GT := GT_sel 44 rfl rfl
set_option maxRecDepth 100000 in
theorem wd_727 : Cond.constantLong "StepsAheadModel" 175 (-8640000000) ∈ GT := GT_of 1085 rfl rfl
set_option maxRecDepth 100000 in
theorem wd_728 : Cond.constantLong "StepsAheadModel" 177 8640000000 ∈ GT := GT_of 1086 rfl rfl
set_option maxRecDepth 100000 in
theorem wd_729 : Cond.code (yn 159) (cod 159) (mxl 159) (rty 159) ∈ GT := GT_of 1093 rfl rfl
set_option maxRecDepth 100000 in
theorem wd_730 : Cond.methodLink "StepsAheadModel" 179 (yn 159) ∈ GT := GT_of 1091 rfl rfl
set_option maxRecDepth 100000 in
theorem wd_731 : Cond.static (yn 159) ∈ GT := GT_of 1092 rfl rfl
set_option maxRecDepth 100000 in
theorem wd_732 : Cond.code (yn 160) (cod 160) (mxl 160) (rty 160) ∈ GT := GT_of 1097 rfl rfl
set_option maxRecDepth 100000 in
theorem wd_733 : Cond.methodLink "StepsAheadModel" 169 (yn 160) ∈ GT := GT_of 1094 rfl rfl
set_option maxRecDepth 100000 in
theorem wd_734 : Cond.instanceMethod (yn 160) ∈ GT := GT_of 1096 rfl rfl
set_option maxRecDepth 100000 in
theorem wd_735 : Cond.selects "StepsAheadModel" (yn 160) (yn 160) ∈ GT := GT_sel 46 rfl rfl
set_option maxRecDepth 100000 in
theorem wd_736 : Cond.code (yn 161) (cod 161) (mxl 161) (rty 161) ∈ GT := GT_of 1101 rfl rfl
set_option maxRecDepth 100000 in
theorem wd_737 : Cond.methodLink "StepsAheadModel" 182 (yn 161) ∈ GT := GT_of 1098 rfl rfl
set_option maxRecDepth 100000 in
theorem wd_738 : Cond.instanceMethod (yn 161) ∈ GT := GT_of 1100 rfl rfl
set_option maxRecDepth 100000 in
theorem wd_739 : Cond.selects "StepsAheadModel" (yn 161) (yn 161) ∈ GT := GT_sel 47 rfl rfl
set_option maxRecDepth 100000 in
theorem wd_740 : Cond.code (yn 162) (cod 162) (mxl 162) (rty 162) ∈ GT := GT_of 1105 rfl rfl
set_option maxRecDepth 100000 in
theorem wd_741 : Cond.methodLink "StepsAheadModel" 172 (yn 162) ∈ GT := GT_of 1102 rfl rfl
set_option maxRecDepth 100000 in
theorem wd_742 : Cond.instanceMethod (yn 162) ∈ GT := GT_of 1104 rfl rfl
set_option maxRecDepth 100000 in
theorem wd_743 : Cond.selects "StepsAheadModel" (yn 162) (yn 162) ∈ GT := GT_sel 48 rfl rfl
set_option maxRecDepth 100000 in
theorem wd_744 : Cond.constantLong "StepsAheadModel" 186 60 ∈ GT := GT_of 1106 rfl rfl
set_option maxRecDepth 100000 in
theorem wd_745 : Cond.constantLong "StepsAheadModel" 215 3 ∈ GT := GT_of 1119 rfl rfl
set_option maxRecDepth 100000 in
theorem wd_746 : Cond.constantLong "StepsAheadModel" 217 (-1000001) ∈ GT := GT_of 1120 rfl rfl
set_option maxRecDepth 100000 in
theorem wd_747 : Cond.code (yn 166) (cod 166) (mxl 166) (rty 166) ∈ GT := GT_of 1124 rfl rfl
set_option maxRecDepth 100000 in
theorem wd_748 : Cond.methodLink "StepsAheadModel" 219 (yn 166) ∈ GT := GT_of 1121 rfl rfl
set_option maxRecDepth 100000 in
theorem wd_749 : Cond.instanceMethod (yn 166) ∈ GT := GT_of 1123 rfl rfl
set_option maxRecDepth 100000 in
theorem wd_750 : Cond.selects "StepsAheadModel" (yn 166) (yn 166) ∈ GT := GT_sel 51 rfl rfl
set_option maxRecDepth 100000 in
theorem wd_751 : Cond.code (yn 167) (cod 167) (mxl 167) (rty 167) ∈ GT := GT_of 1127 rfl rfl
set_option maxRecDepth 100000 in
theorem wd_752 : Cond.methodLink "StepsAheadModel" 222 (yn 167) ∈ GT := GT_of 1125 rfl rfl
set_option maxRecDepth 100000 in
theorem wd_753 : Cond.static (yn 167) ∈ GT := GT_of 1126 rfl rfl
set_option maxRecDepth 100000 in
theorem wd_754 : Cond.code (yn 169) (cod 169) (mxl 169) (rty 169) ∈ GT := GT_of 1134 rfl rfl
set_option maxRecDepth 100000 in
theorem wd_755 : Cond.methodLink "StepsAheadModel" 230 (yn 169) ∈ GT := GT_of 1132 rfl rfl
set_option maxRecDepth 100000 in
theorem wd_756 : Cond.static (yn 169) ∈ GT := GT_of 1133 rfl rfl
set_option maxRecDepth 100000 in
theorem wd_757 : Cond.code (yn 170) (cod 170) (mxl 170) (rty 170) ∈ GT := GT_of 1139 rfl rfl
set_option maxRecDepth 100000 in
theorem wd_758 : Cond.methodLink "StepsAheadModel" 233 (yn 170) ∈ GT := GT_of 1136 rfl rfl
set_option maxRecDepth 100000 in
theorem wd_759 : Cond.instanceMethod (yn 170) ∈ GT := GT_of 1138 rfl rfl
set_option maxRecDepth 100000 in
theorem wd_760 : Cond.selects "StepsAheadModel" (yn 170) (yn 170) ∈ GT := GT_sel 52 rfl rfl
set_option maxRecDepth 100000 in
theorem wd_761 : Cond.constantLong "StepsAheadModel" 228 20 ∈ GT := GT_of 1135 rfl rfl
set_option maxRecDepth 100000 in
theorem wd_762 : Cond.constantLong "StepsAheadModel" 226 (-1) ∈ GT := GT_of 1140 rfl rfl
set_option maxRecDepth 100000 in
theorem wd_763 : Cond.code (yn 172) (cod 172) (mxl 172) (rty 172) ∈ GT := GT_of 1148 rfl rfl
set_option maxRecDepth 100000 in
theorem wd_764 : Cond.methodLink "StepsAheadModel" 237 (yn 172) ∈ GT := GT_of 1145 rfl rfl
set_option maxRecDepth 100000 in
theorem wd_765 : Cond.instanceMethod (yn 172) ∈ GT := GT_of 1147 rfl rfl
set_option maxRecDepth 100000 in
theorem wd_766 : Cond.selects "StepsAheadModel" (yn 172) (yn 172) ∈ GT := GT_sel 53 rfl rfl
set_option maxRecDepth 100000 in
theorem wd_767 : Cond.constantLong "StepsAheadModel" 274 4 ∈ GT := GT_of 1153 rfl rfl
set_option maxRecDepth 100000 in
theorem wd_768 : Cond.code (yn 174) (cod 174) (mxl 174) (rty 174) ∈ GT := GT_of 1157 rfl rfl
set_option maxRecDepth 100000 in
theorem wd_769 : Cond.methodLink "StepsAheadModel" 276 (yn 174) ∈ GT := GT_of 1154 rfl rfl
set_option maxRecDepth 100000 in
theorem wd_770 : Cond.instanceMethod (yn 174) ∈ GT := GT_of 1156 rfl rfl
set_option maxRecDepth 100000 in
theorem wd_771 : Cond.selects "StepsAheadModel" (yn 174) (yn 174) ∈ GT := GT_sel 54 rfl rfl
set_option maxRecDepth 100000 in
theorem wd_772 : Cond.fieldLink "StepsAheadModel" 249 "StepsAheadModel" "looks" "I" ∈ GT := GT_of 860 rfl rfl
set_option maxRecDepth 100000 in
theorem wd_773 : Cond.fieldLink "StepsAheadModel" 252 "StepsAheadModel" "steps" "J" ∈ GT := GT_of 861 rfl rfl
set_option maxRecDepth 100000 in
theorem wd_774 : Cond.fieldLink "StepsAheadModel" 256 "StepsAheadModel" "at" "I" ∈ GT := GT_of 862 rfl rfl
set_option maxRecDepth 100000 in
theorem wd_775 : Cond.fieldLink "StepsAheadModel" 240 "StepsAheadModel" "in0" "I" ∈ GT := GT_of 863 rfl rfl
set_option maxRecDepth 100000 in
theorem wd_776 : Cond.fieldLink "StepsAheadModel" 243 "StepsAheadModel" "in1" "I" ∈ GT := GT_of 864 rfl rfl
set_option maxRecDepth 100000 in
theorem wd_777 : Cond.fieldLink "StepsAheadModel" 246 "StepsAheadModel" "loopsOn" "I" ∈ GT := GT_of 865 rfl rfl
set_option maxRecDepth 100000 in
theorem wd_778 : Cond.fieldLink "StepsAheadModel" 259 "StepsAheadModel" "high" "I" ∈ GT := GT_of 867 rfl rfl
set_option maxRecDepth 100000 in
theorem wd_779 : Cond.code (yn 175) (cod 175) (mxl 175) (rty 175) ∈ GT := GT_of 1161 rfl rfl
set_option maxRecDepth 100000 in
theorem wd_780 : Cond.methodLink "StepsAheadModel" 262 (yn 175) ∈ GT := GT_of 1158 rfl rfl
set_option maxRecDepth 100000 in
theorem wd_781 : Cond.instanceMethod (yn 175) ∈ GT := GT_of 1160 rfl rfl
set_option maxRecDepth 100000 in
theorem wd_782 : Cond.selects "StepsAheadModel" (yn 175) (yn 175) ∈ GT := GT_sel 55 rfl rfl
set_option maxRecDepth 100000 in
theorem wd_783 : Cond.code (yn 176) (cod 176) (mxl 176) (rty 176) ∈ GT := GT_of 1165 rfl rfl
set_option maxRecDepth 100000 in
theorem wd_784 : Cond.methodLink "StepsAheadModel" 265 (yn 176) ∈ GT := GT_of 1162 rfl rfl
set_option maxRecDepth 100000 in
theorem wd_785 : Cond.instanceMethod (yn 176) ∈ GT := GT_of 1164 rfl rfl
set_option maxRecDepth 100000 in
theorem wd_786 : Cond.selects "StepsAheadModel" (yn 176) (yn 176) ∈ GT := GT_sel 56 rfl rfl
set_option maxRecDepth 100000 in
theorem wd_787 : Cond.code (yn 177) (cod 177) (mxl 177) (rty 177) ∈ GT := GT_of 1169 rfl rfl
set_option maxRecDepth 100000 in
theorem wd_788 : Cond.methodLink "StepsAheadModel" 268 (yn 177) ∈ GT := GT_of 1166 rfl rfl
set_option maxRecDepth 100000 in
theorem wd_789 : Cond.instanceMethod (yn 177) ∈ GT := GT_of 1168 rfl rfl
set_option maxRecDepth 100000 in
theorem wd_790 : Cond.selects "StepsAheadModel" (yn 177) (yn 177) ∈ GT := GT_sel 57 rfl rfl
set_option maxRecDepth 100000 in
theorem wd_791 : Cond.constant "StepsAheadModel" 272 (-1000004) ∈ GT := GT_of 1170 rfl rfl
set_option maxRecDepth 100000 in
theorem wd_792 : Cond.constant "StepsAheadModel" 273 1103515245 ∈ GT := GT_of 1171 rfl rfl
set_option maxRecDepth 100000 in
theorem wd_793 : Cond.classLink "StepsAheadLaw" 7 "StepsAhead" ∈ GT := GT_of 16 rfl rfl
set_option maxRecDepth 100000 in
theorem wd_794 : Cond.instantiable "StepsAhead" 7 ∈ GT := GT_of 17 rfl rfl
set_option maxRecDepth 100000 in
theorem wd_795 : Cond.code (yn 0) (cod 0) (mxl 0) (rty 0) ∈ GT := GT_of 20 rfl rfl
set_option maxRecDepth 100000 in
theorem wd_796 : Cond.methodLink "StepsAheadLaw" 9 (yn 0) ∈ GT := GT_of 18 rfl rfl
set_option maxRecDepth 100000 in
theorem wd_797 : Cond.instanceMethod (yn 0) ∈ GT := GT_of 19 rfl rfl
set_option maxRecDepth 100000 in
theorem wd_798 : Cond.classLink "StepsAheadLaw" 10 "StepsAheadModel" ∈ GT := GT_of 828 rfl rfl
set_option maxRecDepth 100000 in
theorem wd_799 : Cond.instantiable "StepsAheadModel" 40 ∈ GT := GT_of 829 rfl rfl
set_option maxRecDepth 100000 in
theorem wd_800 : Cond.code (yn 127) (cod 127) (mxl 127) (rty 127) ∈ GT := GT_of 832 rfl rfl
set_option maxRecDepth 100000 in
theorem wd_801 : Cond.methodLink "StepsAheadLaw" 12 (yn 127) ∈ GT := GT_of 830 rfl rfl
set_option maxRecDepth 100000 in
theorem wd_802 : Cond.instanceMethod (yn 127) ∈ GT := GT_of 831 rfl rfl
set_option maxRecDepth 100000 in
theorem wd_803 : Cond.code (yn 11) (cod 11) (mxl 11) (rty 11) ∈ GT := GT_of 213 rfl rfl
set_option maxRecDepth 100000 in
theorem wd_804 : Cond.methodLink "StepsAheadLaw" 13 (yn 11) ∈ GT := GT_of 210 rfl rfl
set_option maxRecDepth 100000 in
theorem wd_805 : Cond.instanceMethod (yn 11) ∈ GT := GT_of 211 rfl rfl
set_option maxRecDepth 100000 in
theorem wd_806 : Cond.selects "StepsAhead" (yn 11) (yn 11) ∈ GT := GT_of 212 rfl rfl
set_option maxRecDepth 100000 in
theorem wd_807 : Cond.code (yn 128) (cod 128) (mxl 128) (rty 128) ∈ GT := GT_of 959 rfl rfl
set_option maxRecDepth 100000 in
theorem wd_808 : Cond.methodLink "StepsAheadLaw" 17 (yn 128) ∈ GT := GT_of 956 rfl rfl
set_option maxRecDepth 100000 in
theorem wd_809 : Cond.instanceMethod (yn 128) ∈ GT := GT_of 957 rfl rfl
set_option maxRecDepth 100000 in
theorem wd_810 : Cond.selects "StepsAheadModel" (yn 128) (yn 128) ∈ GT := GT_of 958 rfl rfl
set_option maxRecDepth 100000 in
theorem wd_811 : Cond.code (yn 12) (cod 12) (mxl 12) (rty 12) ∈ GT := GT_of 218 rfl rfl
set_option maxRecDepth 100000 in
theorem wd_812 : Cond.methodLink "StepsAheadLaw" 18 (yn 12) ∈ GT := GT_of 215 rfl rfl
set_option maxRecDepth 100000 in
theorem wd_813 : Cond.instanceMethod (yn 12) ∈ GT := GT_of 216 rfl rfl
set_option maxRecDepth 100000 in
theorem wd_814 : Cond.selects "StepsAhead" (yn 12) (yn 12) ∈ GT := GT_of 217 rfl rfl
set_option maxRecDepth 100000 in
theorem wd_815 : Cond.code (yn 129) (cod 129) (mxl 129) (rty 129) ∈ GT := GT_of 964 rfl rfl
set_option maxRecDepth 100000 in
theorem wd_816 : Cond.methodLink "StepsAheadLaw" 22 (yn 129) ∈ GT := GT_of 961 rfl rfl
set_option maxRecDepth 100000 in
theorem wd_817 : Cond.instanceMethod (yn 129) ∈ GT := GT_of 962 rfl rfl
set_option maxRecDepth 100000 in
theorem wd_818 : Cond.selects "StepsAheadModel" (yn 129) (yn 129) ∈ GT := GT_of 963 rfl rfl
set_option maxRecDepth 100000 in
theorem wd_819 : Cond.code (yn 14) (cod 14) (mxl 14) (rty 14) ∈ GT := GT_of 226 rfl rfl
set_option maxRecDepth 100000 in
theorem wd_820 : Cond.methodLink "StepsAheadLaw" 23 (yn 14) ∈ GT := GT_of 223 rfl rfl
set_option maxRecDepth 100000 in
theorem wd_821 : Cond.instanceMethod (yn 14) ∈ GT := GT_of 224 rfl rfl
set_option maxRecDepth 100000 in
theorem wd_822 : Cond.selects "StepsAhead" (yn 14) (yn 14) ∈ GT := GT_of 225 rfl rfl
set_option maxRecDepth 100000 in
theorem wd_823 : Cond.code (yn 131) (cod 131) (mxl 131) (rty 131) ∈ GT := GT_of 973 rfl rfl
set_option maxRecDepth 100000 in
theorem wd_824 : Cond.methodLink "StepsAheadLaw" 27 (yn 131) ∈ GT := GT_of 970 rfl rfl
set_option maxRecDepth 100000 in
theorem wd_825 : Cond.instanceMethod (yn 131) ∈ GT := GT_of 971 rfl rfl
set_option maxRecDepth 100000 in
theorem wd_826 : Cond.selects "StepsAheadModel" (yn 131) (yn 131) ∈ GT := GT_of 972 rfl rfl
set_option maxRecDepth 100000 in
theorem wd_827 : Cond.code (yn 30) (cod 30) (mxl 30) (rty 30) ∈ GT := GT_of 329 rfl rfl
set_option maxRecDepth 100000 in
theorem wd_828 : Cond.methodLink "StepsAheadLaw" 28 (yn 30) ∈ GT := GT_of 326 rfl rfl
set_option maxRecDepth 100000 in
theorem wd_829 : Cond.instanceMethod (yn 30) ∈ GT := GT_of 327 rfl rfl
set_option maxRecDepth 100000 in
theorem wd_830 : Cond.selects "StepsAhead" (yn 30) (yn 30) ∈ GT := GT_of 328 rfl rfl
set_option maxRecDepth 100000 in
theorem wd_831 : Cond.code (yn 134) (cod 134) (mxl 134) (rty 134) ∈ GT := GT_of 987 rfl rfl
set_option maxRecDepth 100000 in
theorem wd_832 : Cond.methodLink "StepsAheadLaw" 32 (yn 134) ∈ GT := GT_of 984 rfl rfl
set_option maxRecDepth 100000 in
theorem wd_833 : Cond.instanceMethod (yn 134) ∈ GT := GT_of 985 rfl rfl
set_option maxRecDepth 100000 in
theorem wd_834 : Cond.selects "StepsAheadModel" (yn 134) (yn 134) ∈ GT := GT_of 986 rfl rfl
set_option maxRecDepth 100000 in
theorem wd_835 : Cond.code (yn 33) (cod 33) (mxl 33) (rty 33) ∈ GT := GT_of 370 rfl rfl
set_option maxRecDepth 100000 in
theorem wd_836 : Cond.methodLink "StepsAheadLaw" 33 (yn 33) ∈ GT := GT_of 367 rfl rfl
set_option maxRecDepth 100000 in
theorem wd_837 : Cond.instanceMethod (yn 33) ∈ GT := GT_of 368 rfl rfl
set_option maxRecDepth 100000 in
theorem wd_838 : Cond.selects "StepsAhead" (yn 33) (yn 33) ∈ GT := GT_of 369 rfl rfl
set_option maxRecDepth 100000 in
theorem wd_839 : Cond.code (yn 136) (cod 136) (mxl 136) (rty 136) ∈ GT := GT_of 996 rfl rfl
set_option maxRecDepth 100000 in
theorem wd_840 : Cond.methodLink "StepsAheadLaw" 36 (yn 136) ∈ GT := GT_of 993 rfl rfl
set_option maxRecDepth 100000 in
theorem wd_841 : Cond.instanceMethod (yn 136) ∈ GT := GT_of 994 rfl rfl
set_option maxRecDepth 100000 in
theorem wd_842 : Cond.selects "StepsAheadModel" (yn 136) (yn 136) ∈ GT := GT_of 995 rfl rfl
set_option maxRecDepth 100000 in
theorem wd_843 : Cond.code (yn 35) (cod 35) (mxl 35) (rty 35) ∈ GT := GT_of 397 rfl rfl
set_option maxRecDepth 100000 in
theorem wd_844 : Cond.methodLink "StepsAheadLaw" 37 (yn 35) ∈ GT := GT_of 394 rfl rfl
set_option maxRecDepth 100000 in
theorem wd_845 : Cond.instanceMethod (yn 35) ∈ GT := GT_of 395 rfl rfl
set_option maxRecDepth 100000 in
theorem wd_846 : Cond.selects "StepsAhead" (yn 35) (yn 35) ∈ GT := GT_of 396 rfl rfl
set_option maxRecDepth 100000 in
theorem wd_847 : Cond.code (yn 137) (cod 137) (mxl 137) (rty 137) ∈ GT := GT_of 1000 rfl rfl
set_option maxRecDepth 100000 in
theorem wd_848 : Cond.methodLink "StepsAheadLaw" 40 (yn 137) ∈ GT := GT_of 997 rfl rfl
set_option maxRecDepth 100000 in
theorem wd_849 : Cond.instanceMethod (yn 137) ∈ GT := GT_of 998 rfl rfl
set_option maxRecDepth 100000 in
theorem wd_850 : Cond.selects "StepsAheadModel" (yn 137) (yn 137) ∈ GT := GT_of 999 rfl rfl
set_option maxRecDepth 100000 in
theorem wd_851 : Cond.code (yn 37) (cod 37) (mxl 37) (rty 37) ∈ GT := GT_of 428 rfl rfl
set_option maxRecDepth 100000 in
theorem wd_852 : Cond.methodLink "StepsAheadLaw" 41 (yn 37) ∈ GT := GT_of 425 rfl rfl
set_option maxRecDepth 100000 in
theorem wd_853 : Cond.instanceMethod (yn 37) ∈ GT := GT_of 426 rfl rfl
set_option maxRecDepth 100000 in
theorem wd_854 : Cond.selects "StepsAhead" (yn 37) (yn 37) ∈ GT := GT_of 427 rfl rfl
set_option maxRecDepth 100000 in
theorem wd_855 : Cond.code (yn 138) (cod 138) (mxl 138) (rty 138) ∈ GT := GT_of 1004 rfl rfl
set_option maxRecDepth 100000 in
theorem wd_856 : Cond.methodLink "StepsAheadLaw" 44 (yn 138) ∈ GT := GT_of 1001 rfl rfl
set_option maxRecDepth 100000 in
theorem wd_857 : Cond.instanceMethod (yn 138) ∈ GT := GT_of 1002 rfl rfl
set_option maxRecDepth 100000 in
theorem wd_858 : Cond.selects "StepsAheadModel" (yn 138) (yn 138) ∈ GT := GT_of 1003 rfl rfl
set_option maxRecDepth 100000 in
theorem wd_859 : Cond.code (yn 42) (cod 42) (mxl 42) (rty 42) ∈ GT := GT_of 457 rfl rfl
set_option maxRecDepth 100000 in
theorem wd_860 : Cond.methodLink "StepsAheadLaw" 45 (yn 42) ∈ GT := GT_of 454 rfl rfl
set_option maxRecDepth 100000 in
theorem wd_861 : Cond.instanceMethod (yn 42) ∈ GT := GT_of 455 rfl rfl
set_option maxRecDepth 100000 in
theorem wd_862 : Cond.selects "StepsAhead" (yn 42) (yn 42) ∈ GT := GT_of 456 rfl rfl
set_option maxRecDepth 100000 in
theorem wd_863 : Cond.code (yn 139) (cod 139) (mxl 139) (rty 139) ∈ GT := GT_of 1010 rfl rfl
set_option maxRecDepth 100000 in
theorem wd_864 : Cond.methodLink "StepsAheadLaw" 48 (yn 139) ∈ GT := GT_of 1007 rfl rfl
set_option maxRecDepth 100000 in
theorem wd_865 : Cond.instanceMethod (yn 139) ∈ GT := GT_of 1008 rfl rfl
set_option maxRecDepth 100000 in
theorem wd_866 : Cond.selects "StepsAheadModel" (yn 139) (yn 139) ∈ GT := GT_of 1009 rfl rfl
set_option maxRecDepth 100000 in
theorem wd_867 : Cond.code (yn 44) (cod 44) (mxl 44) (rty 44) ∈ GT := GT_of 465 rfl rfl
set_option maxRecDepth 100000 in
theorem wd_868 : Cond.methodLink "StepsAheadLaw" 49 (yn 44) ∈ GT := GT_of 462 rfl rfl
set_option maxRecDepth 100000 in
theorem wd_869 : Cond.instanceMethod (yn 44) ∈ GT := GT_of 463 rfl rfl
set_option maxRecDepth 100000 in
theorem wd_870 : Cond.selects "StepsAhead" (yn 44) (yn 44) ∈ GT := GT_of 464 rfl rfl
set_option maxRecDepth 100000 in
theorem wd_871 : Cond.code (yn 140) (cod 140) (mxl 140) (rty 140) ∈ GT := GT_of 1014 rfl rfl
set_option maxRecDepth 100000 in
theorem wd_872 : Cond.methodLink "StepsAheadLaw" 52 (yn 140) ∈ GT := GT_of 1011 rfl rfl
set_option maxRecDepth 100000 in
theorem wd_873 : Cond.instanceMethod (yn 140) ∈ GT := GT_of 1012 rfl rfl
set_option maxRecDepth 100000 in
theorem wd_874 : Cond.selects "StepsAheadModel" (yn 140) (yn 140) ∈ GT := GT_of 1013 rfl rfl
set_option maxRecDepth 100000 in
theorem wd_875 : Cond.code (yn 46) (cod 46) (mxl 46) (rty 46) ∈ GT := GT_of 474 rfl rfl
set_option maxRecDepth 100000 in
theorem wd_876 : Cond.methodLink "StepsAheadLaw" 53 (yn 46) ∈ GT := GT_of 471 rfl rfl
set_option maxRecDepth 100000 in
theorem wd_877 : Cond.instanceMethod (yn 46) ∈ GT := GT_of 472 rfl rfl
set_option maxRecDepth 100000 in
theorem wd_878 : Cond.selects "StepsAhead" (yn 46) (yn 46) ∈ GT := GT_of 473 rfl rfl
set_option maxRecDepth 100000 in
theorem wd_879 : Cond.code (yn 142) (cod 142) (mxl 142) (rty 142) ∈ GT := GT_of 1022 rfl rfl
set_option maxRecDepth 100000 in
theorem wd_880 : Cond.methodLink "StepsAheadLaw" 57 (yn 142) ∈ GT := GT_of 1019 rfl rfl
set_option maxRecDepth 100000 in
theorem wd_881 : Cond.instanceMethod (yn 142) ∈ GT := GT_of 1020 rfl rfl
set_option maxRecDepth 100000 in
theorem wd_882 : Cond.selects "StepsAheadModel" (yn 142) (yn 142) ∈ GT := GT_of 1021 rfl rfl
set_option maxRecDepth 100000 in
theorem wd_883 : Cond.code (yn 49) (cod 49) (mxl 49) (rty 49) ∈ GT := GT_of 491 rfl rfl
set_option maxRecDepth 100000 in
theorem wd_884 : Cond.methodLink "StepsAheadLaw" 58 (yn 49) ∈ GT := GT_of 488 rfl rfl
set_option maxRecDepth 100000 in
theorem wd_885 : Cond.instanceMethod (yn 49) ∈ GT := GT_of 489 rfl rfl
set_option maxRecDepth 100000 in
theorem wd_886 : Cond.selects "StepsAhead" (yn 49) (yn 49) ∈ GT := GT_of 490 rfl rfl
set_option maxRecDepth 100000 in
theorem wd_887 : Cond.code (yn 144) (cod 144) (mxl 144) (rty 144) ∈ GT := GT_of 1029 rfl rfl
set_option maxRecDepth 100000 in
theorem wd_888 : Cond.methodLink "StepsAheadLaw" 61 (yn 144) ∈ GT := GT_of 1026 rfl rfl
set_option maxRecDepth 100000 in
theorem wd_889 : Cond.instanceMethod (yn 144) ∈ GT := GT_of 1027 rfl rfl
set_option maxRecDepth 100000 in
theorem wd_890 : Cond.selects "StepsAheadModel" (yn 144) (yn 144) ∈ GT := GT_of 1028 rfl rfl
set_option maxRecDepth 100000 in
theorem wd_891 : Cond.code (yn 50) (cod 50) (mxl 50) (rty 50) ∈ GT := GT_of 497 rfl rfl
set_option maxRecDepth 100000 in
theorem wd_892 : Cond.methodLink "StepsAheadLaw" 62 (yn 50) ∈ GT := GT_of 494 rfl rfl
set_option maxRecDepth 100000 in
theorem wd_893 : Cond.instanceMethod (yn 50) ∈ GT := GT_of 495 rfl rfl
set_option maxRecDepth 100000 in
theorem wd_894 : Cond.selects "StepsAhead" (yn 50) (yn 50) ∈ GT := GT_of 496 rfl rfl
set_option maxRecDepth 100000 in
theorem wd_895 : Cond.code (yn 145) (cod 145) (mxl 145) (rty 145) ∈ GT := GT_of 1035 rfl rfl
set_option maxRecDepth 100000 in
theorem wd_896 : Cond.methodLink "StepsAheadLaw" 65 (yn 145) ∈ GT := GT_of 1032 rfl rfl
set_option maxRecDepth 100000 in
theorem wd_897 : Cond.instanceMethod (yn 145) ∈ GT := GT_of 1033 rfl rfl
set_option maxRecDepth 100000 in
theorem wd_898 : Cond.selects "StepsAheadModel" (yn 145) (yn 145) ∈ GT := GT_of 1034 rfl rfl
set_option maxRecDepth 100000 in
theorem wd_899 : Cond.code (yn 63) (cod 63) (mxl 63) (rty 63) ∈ GT := GT_of 557 rfl rfl
set_option maxRecDepth 100000 in
theorem wd_900 : Cond.methodLink "StepsAheadLaw" 66 (yn 63) ∈ GT := GT_of 554 rfl rfl
set_option maxRecDepth 100000 in
theorem wd_901 : Cond.instanceMethod (yn 63) ∈ GT := GT_of 555 rfl rfl
set_option maxRecDepth 100000 in
theorem wd_902 : Cond.selects "StepsAhead" (yn 63) (yn 63) ∈ GT := GT_of 556 rfl rfl
set_option maxRecDepth 100000 in
theorem wd_903 : Cond.code (yn 150) (cod 150) (mxl 150) (rty 150) ∈ GT := GT_of 1055 rfl rfl
set_option maxRecDepth 100000 in
theorem wd_904 : Cond.methodLink "StepsAheadLaw" 69 (yn 150) ∈ GT := GT_of 1052 rfl rfl
set_option maxRecDepth 100000 in
theorem wd_905 : Cond.instanceMethod (yn 150) ∈ GT := GT_of 1053 rfl rfl
set_option maxRecDepth 100000 in
theorem wd_906 : Cond.selects "StepsAheadModel" (yn 150) (yn 150) ∈ GT := GT_of 1054 rfl rfl
set_option maxRecDepth 100000 in
theorem wd_907 : Cond.code (yn 65) (cod 65) (mxl 65) (rty 65) ∈ GT := GT_of 566 rfl rfl
set_option maxRecDepth 100000 in
theorem wd_908 : Cond.methodLink "StepsAheadLaw" 70 (yn 65) ∈ GT := GT_of 563 rfl rfl
set_option maxRecDepth 100000 in
theorem wd_909 : Cond.instanceMethod (yn 65) ∈ GT := GT_of 564 rfl rfl
set_option maxRecDepth 100000 in
theorem wd_910 : Cond.selects "StepsAhead" (yn 65) (yn 65) ∈ GT := GT_of 565 rfl rfl
set_option maxRecDepth 100000 in
theorem wd_911 : Cond.code (yn 151) (cod 151) (mxl 151) (rty 151) ∈ GT := GT_of 1059 rfl rfl
set_option maxRecDepth 100000 in
theorem wd_912 : Cond.methodLink "StepsAheadLaw" 73 (yn 151) ∈ GT := GT_of 1056 rfl rfl
set_option maxRecDepth 100000 in
theorem wd_913 : Cond.instanceMethod (yn 151) ∈ GT := GT_of 1057 rfl rfl
set_option maxRecDepth 100000 in
theorem wd_914 : Cond.selects "StepsAheadModel" (yn 151) (yn 151) ∈ GT := GT_of 1058 rfl rfl
set_option maxRecDepth 100000 in
theorem wd_915 : Cond.code (yn 97) (cod 97) (mxl 97) (rty 97) ∈ GT := GT_of 697 rfl rfl
set_option maxRecDepth 100000 in
theorem wd_916 : Cond.methodLink "StepsAheadLaw" 74 (yn 97) ∈ GT := GT_of 694 rfl rfl
set_option maxRecDepth 100000 in
theorem wd_917 : Cond.instanceMethod (yn 97) ∈ GT := GT_of 695 rfl rfl
set_option maxRecDepth 100000 in
theorem wd_918 : Cond.selects "StepsAhead" (yn 97) (yn 97) ∈ GT := GT_of 696 rfl rfl
set_option maxRecDepth 100000 in
theorem wd_919 : Cond.code (yn 165) (cod 165) (mxl 165) (rty 165) ∈ GT := GT_of 1118 rfl rfl
set_option maxRecDepth 100000 in
theorem wd_920 : Cond.methodLink "StepsAheadLaw" 78 (yn 165) ∈ GT := GT_of 1115 rfl rfl
set_option maxRecDepth 100000 in
theorem wd_921 : Cond.instanceMethod (yn 165) ∈ GT := GT_of 1116 rfl rfl
set_option maxRecDepth 100000 in
theorem wd_922 : Cond.selects "StepsAheadModel" (yn 165) (yn 165) ∈ GT := GT_of 1117 rfl rfl
set_option maxRecDepth 100000 in
theorem wd_923 : Cond.code (yn 101) (cod 101) (mxl 101) (rty 101) ∈ GT := GT_of 714 rfl rfl
set_option maxRecDepth 100000 in
theorem wd_924 : Cond.methodLink "StepsAheadLaw" 79 (yn 101) ∈ GT := GT_of 711 rfl rfl
set_option maxRecDepth 100000 in
theorem wd_925 : Cond.instanceMethod (yn 101) ∈ GT := GT_of 712 rfl rfl
set_option maxRecDepth 100000 in
theorem wd_926 : Cond.selects "StepsAhead" (yn 101) (yn 101) ∈ GT := GT_of 713 rfl rfl
set_option maxRecDepth 100000 in
theorem wd_927 : Cond.code (yn 168) (cod 168) (mxl 168) (rty 168) ∈ GT := GT_of 1131 rfl rfl
set_option maxRecDepth 100000 in
theorem wd_928 : Cond.methodLink "StepsAheadLaw" 82 (yn 168) ∈ GT := GT_of 1128 rfl rfl
set_option maxRecDepth 100000 in
theorem wd_929 : Cond.instanceMethod (yn 168) ∈ GT := GT_of 1129 rfl rfl
set_option maxRecDepth 100000 in
theorem wd_930 : Cond.selects "StepsAheadModel" (yn 168) (yn 168) ∈ GT := GT_of 1130 rfl rfl
set_option maxRecDepth 100000 in
theorem wd_931 : Cond.code (yn 105) (cod 105) (mxl 105) (rty 105) ∈ GT := GT_of 729 rfl rfl
set_option maxRecDepth 100000 in
theorem wd_932 : Cond.methodLink "StepsAheadLaw" 83 (yn 105) ∈ GT := GT_of 726 rfl rfl
set_option maxRecDepth 100000 in
theorem wd_933 : Cond.instanceMethod (yn 105) ∈ GT := GT_of 727 rfl rfl
set_option maxRecDepth 100000 in
theorem wd_934 : Cond.selects "StepsAhead" (yn 105) (yn 105) ∈ GT := GT_of 728 rfl rfl
set_option maxRecDepth 100000 in
theorem wd_935 : Cond.code (yn 171) (cod 171) (mxl 171) (rty 171) ∈ GT := GT_of 1144 rfl rfl
set_option maxRecDepth 100000 in
theorem wd_936 : Cond.methodLink "StepsAheadLaw" 86 (yn 171) ∈ GT := GT_of 1141 rfl rfl
set_option maxRecDepth 100000 in
theorem wd_937 : Cond.instanceMethod (yn 171) ∈ GT := GT_of 1142 rfl rfl
set_option maxRecDepth 100000 in
theorem wd_938 : Cond.selects "StepsAheadModel" (yn 171) (yn 171) ∈ GT := GT_of 1143 rfl rfl
set_option maxRecDepth 100000 in
theorem wd_939 : Cond.code (yn 107) (cod 107) (mxl 107) (rty 107) ∈ GT := GT_of 738 rfl rfl
set_option maxRecDepth 100000 in
theorem wd_940 : Cond.methodLink "StepsAheadLaw" 87 (yn 107) ∈ GT := GT_of 735 rfl rfl
set_option maxRecDepth 100000 in
theorem wd_941 : Cond.instanceMethod (yn 107) ∈ GT := GT_of 736 rfl rfl
set_option maxRecDepth 100000 in
theorem wd_942 : Cond.selects "StepsAhead" (yn 107) (yn 107) ∈ GT := GT_of 737 rfl rfl
set_option maxRecDepth 100000 in
theorem wd_943 : Cond.code (yn 173) (cod 173) (mxl 173) (rty 173) ∈ GT := GT_of 1152 rfl rfl
set_option maxRecDepth 100000 in
theorem wd_944 : Cond.methodLink "StepsAheadLaw" 91 (yn 173) ∈ GT := GT_of 1149 rfl rfl
set_option maxRecDepth 100000 in
theorem wd_945 : Cond.instanceMethod (yn 173) ∈ GT := GT_of 1150 rfl rfl
set_option maxRecDepth 100000 in
theorem wd_946 : Cond.selects "StepsAheadModel" (yn 173) (yn 173) ∈ GT := GT_of 1151 rfl rfl
set_option maxRecDepth 100000 in
theorem wd_947 : Cond.code (yn 123) (cod 123) (mxl 123) (rty 123) ∈ GT := GT_of 814 rfl rfl
set_option maxRecDepth 100000 in
theorem wd_948 : Cond.methodLink "StepsAheadLaw" 92 (yn 123) ∈ GT := GT_of 811 rfl rfl
set_option maxRecDepth 100000 in
theorem wd_949 : Cond.instanceMethod (yn 123) ∈ GT := GT_of 812 rfl rfl
set_option maxRecDepth 100000 in
theorem wd_950 : Cond.selects "StepsAhead" (yn 123) (yn 123) ∈ GT := GT_of 813 rfl rfl
set_option maxRecDepth 100000 in
theorem wd_951 : Cond.code (yn 178) (cod 178) (mxl 178) (rty 178) ∈ GT := GT_of 1175 rfl rfl
set_option maxRecDepth 100000 in
theorem wd_952 : Cond.methodLink "StepsAheadLaw" 95 (yn 178) ∈ GT := GT_of 1172 rfl rfl
set_option maxRecDepth 100000 in
theorem wd_953 : Cond.instanceMethod (yn 178) ∈ GT := GT_of 1173 rfl rfl
set_option maxRecDepth 100000 in
theorem wd_954 : Cond.selects "StepsAheadModel" (yn 178) (yn 178) ∈ GT := GT_of 1174 rfl rfl
set_option maxRecDepth 100000 in
theorem wd_955 : Cond.code (yn 124) (cod 124) (mxl 124) (rty 124) ∈ GT := GT_of 818 rfl rfl
set_option maxRecDepth 100000 in
theorem wd_956 : Cond.methodLink "StepsAheadLaw" 96 (yn 124) ∈ GT := GT_of 815 rfl rfl
set_option maxRecDepth 100000 in
theorem wd_957 : Cond.instanceMethod (yn 124) ∈ GT := GT_of 816 rfl rfl
set_option maxRecDepth 100000 in
theorem wd_958 : Cond.selects "StepsAhead" (yn 124) (yn 124) ∈ GT := GT_of 817 rfl rfl
set_option maxRecDepth 100000 in
theorem wd_959 : Cond.code (yn 179) (cod 179) (mxl 179) (rty 179) ∈ GT := GT_of 1179 rfl rfl
set_option maxRecDepth 100000 in
theorem wd_960 : Cond.methodLink "StepsAheadLaw" 99 (yn 179) ∈ GT := GT_of 1176 rfl rfl
set_option maxRecDepth 100000 in
theorem wd_961 : Cond.instanceMethod (yn 179) ∈ GT := GT_of 1177 rfl rfl
set_option maxRecDepth 100000 in
theorem wd_962 : Cond.selects "StepsAheadModel" (yn 179) (yn 179) ∈ GT := GT_of 1178 rfl rfl
set_option maxRecDepth 100000 in
theorem wd_963 : Cond.code (yn 125) (cod 125) (mxl 125) (rty 125) ∈ GT := GT_of 823 rfl rfl
set_option maxRecDepth 100000 in
theorem wd_964 : Cond.methodLink "StepsAheadLaw" 100 (yn 125) ∈ GT := GT_of 820 rfl rfl
set_option maxRecDepth 100000 in
theorem wd_965 : Cond.instanceMethod (yn 125) ∈ GT := GT_of 821 rfl rfl
set_option maxRecDepth 100000 in
theorem wd_966 : Cond.selects "StepsAhead" (yn 125) (yn 125) ∈ GT := GT_of 822 rfl rfl
set_option maxRecDepth 100000 in
theorem wd_967 : Cond.code (yn 180) (cod 180) (mxl 180) (rty 180) ∈ GT := GT_of 1183 rfl rfl
set_option maxRecDepth 100000 in
theorem wd_968 : Cond.methodLink "StepsAheadLaw" 103 (yn 180) ∈ GT := GT_of 1180 rfl rfl
set_option maxRecDepth 100000 in
theorem wd_969 : Cond.instanceMethod (yn 180) ∈ GT := GT_of 1181 rfl rfl
set_option maxRecDepth 100000 in
theorem wd_970 : Cond.selects "StepsAheadModel" (yn 180) (yn 180) ∈ GT := GT_of 1182 rfl rfl
