theorem okJ1_charAt_3b067 : okT 10 cJ1_charAt_3b067 tJ1_charAt_3b067 = true := by decide +kernel
theorem okJ3_checkIndex_8e157 : okT 12 cJ3_checkIndex_8e157 tJ3_checkIndex_8e157 = true := by decide +kernel
