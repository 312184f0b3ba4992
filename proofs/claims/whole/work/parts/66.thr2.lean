/-! THROWS of the class: the words of each site -/
section THR
theorem ta_127 : ∀ w ∈ nse_at "Termreckonry" 127 "java/util/NoSuchElementException" ["java/lang/RuntimeException", "java/lang/Exception"], w ∈ fw_GW ∨ w ∈ fw_NW := fw_sub2 [44, 411, 420, 428, 431, 433, 412, 413, 91, 92, 414, 419, 429, 449, 401, 450, 403, 451, 405, 415, 417, 407, 445, 446, 448, 407, 640, 641, 642, 439, 393, 439, 440, 441, 442, 395, 442, 443, 444, 445, 397, 639, 630, 631, 632, 427, 633, 634, 635, 636, 410, 409, 637] (by decide +kernel) (by decide +kernel)
theorem tc_127 : Cond.classLink "Termreckonry" 123 "java/util/NoSuchElementException" ∈ fw_GW := fw_gw 629 (by decide +kernel) (by decide +kernel)
theorem ti_127 : Cond.initialized "java/util/NoSuchElementException" ∈ fw_GW := fw_gw 61 (by decide +kernel) (by decide +kernel)
theorem th_127_125 : fw_thrX "Termreckonry" 123 127 125 "no law counts" "java/util/NoSuchElementException" ["java/lang/RuntimeException", "java/lang/Exception"] := ⟨rfl, by decide +kernel, by decide +kernel, tc_127, ti_127, by decide +kernel, ta_127, rfl⟩
theorem th_127_281 : fw_thrX "Termreckonry" 123 127 281 "no release" "java/util/NoSuchElementException" ["java/lang/RuntimeException", "java/lang/Exception"] := ⟨rfl, by decide +kernel, by decide +kernel, tc_127, ti_127, by decide +kernel, ta_127, rfl⟩
theorem th_127_286 : fw_thrX "Termreckonry" 123 127 286 "no licence, or one for ever" "java/util/NoSuchElementException" ["java/lang/RuntimeException", "java/lang/Exception"] := ⟨rfl, by decide +kernel, by decide +kernel, tc_127, ti_127, by decide +kernel, ta_127, rfl⟩
theorem th_127_297 : fw_thrX "Termreckonry" 123 127 297 "no warrant keeps" "java/util/NoSuchElementException" ["java/lang/RuntimeException", "java/lang/Exception"] := ⟨rfl, by decide +kernel, by decide +kernel, tc_127, ti_127, by decide +kernel, ta_127, rfl⟩
theorem th_127_340 : fw_thrX "Termreckonry" 123 127 340 "it counts for nothing, or never begins" "java/util/NoSuchElementException" ["java/lang/RuntimeException", "java/lang/Exception"] := ⟨rfl, by decide +kernel, by decide +kernel, tc_127, ti_127, by decide +kernel, ta_127, rfl⟩
end THR
