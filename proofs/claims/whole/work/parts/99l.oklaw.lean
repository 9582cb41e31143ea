/-! THE LAW'S TABLE against its bytecode -/
theorem okT_app {own : Nat} {cc : ByteArray} {s t : List (List (Nat × XE))} (h1 : okT own cc s = true) (h2 : okT own cc t = true) : okT own cc (s ++ t) = true := by
  unfold okT at *
  rw [List.all_append, h1, h2]
  rfl
theorem okL0 : okT 8 code ((tL_law.drop 0).take 1) = true := by decide +kernel
theorem okL1 : okT 8 code ((tL_law.drop 1).take 1) = true := by decide +kernel
theorem okL2 : okT 8 code ((tL_law.drop 2).take 1) = true := by decide +kernel
theorem okL3 : okT 8 code ((tL_law.drop 3).take 1) = true := by decide +kernel
theorem okL4 : okT 8 code ((tL_law.drop 4).take 1) = true := by decide +kernel
theorem okL5 : okT 8 code ((tL_law.drop 5).take 1) = true := by decide +kernel
theorem okL6 : okT 8 code ((tL_law.drop 6).take 1) = true := by decide +kernel
theorem okL7 : okT 8 code ((tL_law.drop 7).take 1) = true := by decide +kernel
theorem okL8 : okT 8 code ((tL_law.drop 8).take 1) = true := by decide +kernel
theorem okL9 : okT 8 code ((tL_law.drop 9).take 1) = true := by decide +kernel
theorem okL10 : okT 8 code ((tL_law.drop 10).take 1) = true := by decide +kernel
theorem okL11 : okT 8 code ((tL_law.drop 11).take 1) = true := by decide +kernel
theorem okL12 : okT 8 code ((tL_law.drop 12).take 1) = true := by decide +kernel
theorem okL13 : okT 8 code ((tL_law.drop 13).take 1) = true := by decide +kernel
theorem okL14 : okT 8 code ((tL_law.drop 14).take 1) = true := by decide +kernel
theorem okL15 : okT 8 code ((tL_law.drop 15).take 1) = true := by decide +kernel
theorem okL16 : okT 8 code ((tL_law.drop 16).take 1) = true := by decide +kernel
theorem okL17 : okT 8 code ((tL_law.drop 17).take 1) = true := by decide +kernel
theorem okL18 : okT 8 code ((tL_law.drop 18).take 1) = true := by decide +kernel
theorem okL19 : okT 8 code ((tL_law.drop 19).take 1) = true := by decide +kernel
theorem okL20 : okT 8 code ((tL_law.drop 20).take 1) = true := by decide +kernel
theorem okL21 : okT 8 code ((tL_law.drop 21).take 1) = true := by decide +kernel
theorem okL22 : okT 8 code ((tL_law.drop 22).take 1) = true := by decide +kernel
theorem okL23 : okT 8 code ((tL_law.drop 23).take 1) = true := by decide +kernel
theorem okL24 : okT 8 code ((tL_law.drop 24).take 1) = true := by decide +kernel
theorem okL25 : okT 8 code ((tL_law.drop 25).take 1) = true := by decide +kernel
theorem okL26 : okT 8 code ((tL_law.drop 26).take 1) = true := by decide +kernel
theorem okL27 : okT 8 code ((tL_law.drop 27).take 1) = true := by decide +kernel
theorem okL28 : okT 8 code ((tL_law.drop 28).take 1) = true := by decide +kernel
theorem okL29 : okT 8 code ((tL_law.drop 29).take 1) = true := by decide +kernel
theorem okL30 : okT 8 code ((tL_law.drop 30).take 1) = true := by decide +kernel
theorem okL31 : okT 8 code ((tL_law.drop 31).take 1) = true := by decide +kernel
theorem okL32 : okT 8 code ((tL_law.drop 32).take 1) = true := by decide +kernel
theorem okL33 : okT 8 code ((tL_law.drop 33).take 1) = true := by decide +kernel
theorem okL34 : okT 8 code ((tL_law.drop 34).take 1) = true := by decide +kernel
theorem okL35 : okT 8 code ((tL_law.drop 35).take 1) = true := by decide +kernel
theorem okL36 : okT 8 code ((tL_law.drop 36).take 1) = true := by decide +kernel
theorem okL37 : okT 8 code ((tL_law.drop 37).take 1) = true := by decide +kernel
theorem okL38 : okT 8 code ((tL_law.drop 38).take 1) = true := by decide +kernel
theorem okL39 : okT 8 code ((tL_law.drop 39).take 1) = true := by decide +kernel
theorem okL40 : okT 8 code ((tL_law.drop 40).take 1) = true := by decide +kernel
theorem okL41 : okT 8 code ((tL_law.drop 41).take 1) = true := by decide +kernel
theorem okL42 : okT 8 code ((tL_law.drop 42).take 1) = true := by decide +kernel
theorem okL43 : okT 8 code ((tL_law.drop 43).take 1) = true := by decide +kernel
theorem okL44 : okT 8 code ((tL_law.drop 44).take 1) = true := by decide +kernel
theorem okL45 : okT 8 code ((tL_law.drop 45).take 1) = true := by decide +kernel
theorem okL46 : okT 8 code ((tL_law.drop 46).take 1) = true := by decide +kernel
theorem okL47 : okT 8 code ((tL_law.drop 47).take 1) = true := by decide +kernel
theorem okL48 : okT 8 code ((tL_law.drop 48).take 1) = true := by decide +kernel
theorem okL49 : okT 8 code ((tL_law.drop 49).take 1) = true := by decide +kernel
theorem okL50 : okT 8 code ((tL_law.drop 50).take 1) = true := by decide +kernel
theorem okL51 : okT 8 code ((tL_law.drop 51).take 1) = true := by decide +kernel
theorem okL52 : okT 8 code ((tL_law.drop 52).take 1) = true := by decide +kernel
theorem okL53 : okT 8 code ((tL_law.drop 53).take 1) = true := by decide +kernel
theorem okL54 : okT 8 code ((tL_law.drop 54).take 1) = true := by decide +kernel
theorem okL55 : okT 8 code ((tL_law.drop 55).take 1) = true := by decide +kernel
theorem okL56 : okT 8 code ((tL_law.drop 56).take 1) = true := by decide +kernel
theorem okL57 : okT 8 code ((tL_law.drop 57).take 1) = true := by decide +kernel
theorem okL58 : okT 8 code ((tL_law.drop 58).take 1) = true := by decide +kernel
theorem okL59 : okT 8 code ((tL_law.drop 59).take 1) = true := by decide +kernel
theorem okL60 : okT 8 code ((tL_law.drop 60).take 1) = true := by decide +kernel
theorem okL61 : okT 8 code ((tL_law.drop 61).take 1) = true := by decide +kernel
theorem okL62 : okT 8 code ((tL_law.drop 62).take 1) = true := by decide +kernel
theorem okL63 : okT 8 code ((tL_law.drop 63).take 1) = true := by decide +kernel
theorem okL_law : okT 8 code tL_law = true := by
  have e : tL_law = ((tL_law.drop 0).take 1) ++ (((tL_law.drop 1).take 1) ++ (((tL_law.drop 2).take 1) ++ (((tL_law.drop 3).take 1) ++ (((tL_law.drop 4).take 1) ++ (((tL_law.drop 5).take 1) ++ (((tL_law.drop 6).take 1) ++ (((tL_law.drop 7).take 1) ++ (((tL_law.drop 8).take 1) ++ (((tL_law.drop 9).take 1) ++ (((tL_law.drop 10).take 1) ++ (((tL_law.drop 11).take 1) ++ (((tL_law.drop 12).take 1) ++ (((tL_law.drop 13).take 1) ++ (((tL_law.drop 14).take 1) ++ (((tL_law.drop 15).take 1) ++ (((tL_law.drop 16).take 1) ++ (((tL_law.drop 17).take 1) ++ (((tL_law.drop 18).take 1) ++ (((tL_law.drop 19).take 1) ++ (((tL_law.drop 20).take 1) ++ (((tL_law.drop 21).take 1) ++ (((tL_law.drop 22).take 1) ++ (((tL_law.drop 23).take 1) ++ (((tL_law.drop 24).take 1) ++ (((tL_law.drop 25).take 1) ++ (((tL_law.drop 26).take 1) ++ (((tL_law.drop 27).take 1) ++ (((tL_law.drop 28).take 1) ++ (((tL_law.drop 29).take 1) ++ (((tL_law.drop 30).take 1) ++ (((tL_law.drop 31).take 1) ++ (((tL_law.drop 32).take 1) ++ (((tL_law.drop 33).take 1) ++ (((tL_law.drop 34).take 1) ++ (((tL_law.drop 35).take 1) ++ (((tL_law.drop 36).take 1) ++ (((tL_law.drop 37).take 1) ++ (((tL_law.drop 38).take 1) ++ (((tL_law.drop 39).take 1) ++ (((tL_law.drop 40).take 1) ++ (((tL_law.drop 41).take 1) ++ (((tL_law.drop 42).take 1) ++ (((tL_law.drop 43).take 1) ++ (((tL_law.drop 44).take 1) ++ (((tL_law.drop 45).take 1) ++ (((tL_law.drop 46).take 1) ++ (((tL_law.drop 47).take 1) ++ (((tL_law.drop 48).take 1) ++ (((tL_law.drop 49).take 1) ++ (((tL_law.drop 50).take 1) ++ (((tL_law.drop 51).take 1) ++ (((tL_law.drop 52).take 1) ++ (((tL_law.drop 53).take 1) ++ (((tL_law.drop 54).take 1) ++ (((tL_law.drop 55).take 1) ++ (((tL_law.drop 56).take 1) ++ (((tL_law.drop 57).take 1) ++ (((tL_law.drop 58).take 1) ++ (((tL_law.drop 59).take 1) ++ (((tL_law.drop 60).take 1) ++ (((tL_law.drop 61).take 1) ++ (((tL_law.drop 62).take 1) ++ (((tL_law.drop 63).take 1)))))))))))))))))))))))))))))))))))))))))))))))))))))))))))))))) := rfl
  rw [e]
  exact okT_app okL0 (okT_app okL1 (okT_app okL2 (okT_app okL3 (okT_app okL4 (okT_app okL5 (okT_app okL6 (okT_app okL7 (okT_app okL8 (okT_app okL9 (okT_app okL10 (okT_app okL11 (okT_app okL12 (okT_app okL13 (okT_app okL14 (okT_app okL15 (okT_app okL16 (okT_app okL17 (okT_app okL18 (okT_app okL19 (okT_app okL20 (okT_app okL21 (okT_app okL22 (okT_app okL23 (okT_app okL24 (okT_app okL25 (okT_app okL26 (okT_app okL27 (okT_app okL28 (okT_app okL29 (okT_app okL30 (okT_app okL31 (okT_app okL32 (okT_app okL33 (okT_app okL34 (okT_app okL35 (okT_app okL36 (okT_app okL37 (okT_app okL38 (okT_app okL39 (okT_app okL40 (okT_app okL41 (okT_app okL42 (okT_app okL43 (okT_app okL44 (okT_app okL45 (okT_app okL46 (okT_app okL47 (okT_app okL48 (okT_app okL49 (okT_app okL50 (okT_app okL51 (okT_app okL52 (okT_app okL53 (okT_app okL54 (okT_app okL55 (okT_app okL56 (okT_app okL57 (okT_app okL58 (okT_app okL59 (okT_app okL60 (okT_app okL61 (okT_app okL62 (okL63)))))))))))))))))))))))))))))))))))))))))))))))))))))))))))))))
theorem nokL_law : tL_law.all (fun l => l.all (fun q => nOK 8 4 q.2)) = true := by decide +kernel
theorem tabL_law : tabOK 8 4 code tL_law = true := tabOK_mk okL_law nokL_law
def LWC : List Nat := [64, 65, 66, 67, 68, 69, 70, 71, 72, 73, 74, 75, 76, 77, 78, 79, 80, 81, 82, 83, 84, 85, 86, 87, 88, 89, 90, 91, 92, 93, 94, 95, 96, 97, 98, 99, 100, 101, 102, 103, 104, 105, 106, 107, 108, 109, 110, 111, 112, 113, 114, 115, 116, 117, 118, 119, 137, 147, 150, 151, 152, 153, 154, 156, 157, 159, 160, 161, 162, 164, 165, 166, 176, 178, 180, 181, 187, 188, 189, 191, 192, 194, 195, 196, 198, 200, 204, 205, 207, 208, 209, 210, 211, 214, 215, 216, 217, 219, 220, 221, 222, 223, 224, 225, 226, 227, 228, 230, 231, 234, 235, 236]
theorem chL_law : chT LWC tL_law = true := by decide +kernel
