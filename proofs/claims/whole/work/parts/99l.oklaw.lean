/-! THE LAW'S TABLE against its bytecode -/
theorem okT_app {own : Nat} {cc : ByteArray} {s t : List (List (Nat × XE))} (h1 : okT own cc s = true) (h2 : okT own cc t = true) : okT own cc (s ++ t) = true := by
  unfold okT at *
  rw [List.all_append, h1, h2]
  rfl
theorem okL0 : okT 8 code ((tL_law.drop 0).take 2) = true := by decide +kernel
theorem okL1 : okT 8 code ((tL_law.drop 2).take 2) = true := by decide +kernel
theorem okL2 : okT 8 code ((tL_law.drop 4).take 2) = true := by decide +kernel
theorem okL3 : okT 8 code ((tL_law.drop 6).take 2) = true := by decide +kernel
theorem okL4 : okT 8 code ((tL_law.drop 8).take 2) = true := by decide +kernel
theorem okL5 : okT 8 code ((tL_law.drop 10).take 2) = true := by decide +kernel
theorem okL6 : okT 8 code ((tL_law.drop 12).take 2) = true := by decide +kernel
theorem okL7 : okT 8 code ((tL_law.drop 14).take 2) = true := by decide +kernel
theorem okL8 : okT 8 code ((tL_law.drop 16).take 2) = true := by decide +kernel
theorem okL9 : okT 8 code ((tL_law.drop 18).take 2) = true := by decide +kernel
theorem okL10 : okT 8 code ((tL_law.drop 20).take 2) = true := by decide +kernel
theorem okL11 : okT 8 code ((tL_law.drop 22).take 2) = true := by decide +kernel
theorem okL12 : okT 8 code ((tL_law.drop 24).take 2) = true := by decide +kernel
theorem okL13 : okT 8 code ((tL_law.drop 26).take 2) = true := by decide +kernel
theorem okL14 : okT 8 code ((tL_law.drop 28).take 2) = true := by decide +kernel
theorem okL15 : okT 8 code ((tL_law.drop 30).take 2) = true := by decide +kernel
theorem okL16 : okT 8 code ((tL_law.drop 32).take 2) = true := by decide +kernel
theorem okL17 : okT 8 code ((tL_law.drop 34).take 2) = true := by decide +kernel
theorem okL18 : okT 8 code ((tL_law.drop 36).take 2) = true := by decide +kernel
theorem okL19 : okT 8 code ((tL_law.drop 38).take 2) = true := by decide +kernel
theorem okL20 : okT 8 code ((tL_law.drop 40).take 2) = true := by decide +kernel
theorem okL21 : okT 8 code ((tL_law.drop 42).take 2) = true := by decide +kernel
theorem okL22 : okT 8 code ((tL_law.drop 44).take 2) = true := by decide +kernel
theorem okL23 : okT 8 code ((tL_law.drop 46).take 2) = true := by decide +kernel
theorem okL24 : okT 8 code ((tL_law.drop 48).take 2) = true := by decide +kernel
theorem okL25 : okT 8 code ((tL_law.drop 50).take 2) = true := by decide +kernel
theorem okL26 : okT 8 code ((tL_law.drop 52).take 2) = true := by decide +kernel
theorem okL27 : okT 8 code ((tL_law.drop 54).take 2) = true := by decide +kernel
theorem okL28 : okT 8 code ((tL_law.drop 56).take 2) = true := by decide +kernel
theorem okL29 : okT 8 code ((tL_law.drop 58).take 2) = true := by decide +kernel
theorem okL30 : okT 8 code ((tL_law.drop 60).take 2) = true := by decide +kernel
theorem okL31 : okT 8 code ((tL_law.drop 62).take 2) = true := by decide +kernel
set_option maxRecDepth 100000 in
theorem okL_law : okT 8 code tL_law = true := by
  have e : tL_law = ((tL_law.drop 0).take 2) ++ (((tL_law.drop 2).take 2) ++ (((tL_law.drop 4).take 2) ++ (((tL_law.drop 6).take 2) ++ (((tL_law.drop 8).take 2) ++ (((tL_law.drop 10).take 2) ++ (((tL_law.drop 12).take 2) ++ (((tL_law.drop 14).take 2) ++ (((tL_law.drop 16).take 2) ++ (((tL_law.drop 18).take 2) ++ (((tL_law.drop 20).take 2) ++ (((tL_law.drop 22).take 2) ++ (((tL_law.drop 24).take 2) ++ (((tL_law.drop 26).take 2) ++ (((tL_law.drop 28).take 2) ++ (((tL_law.drop 30).take 2) ++ (((tL_law.drop 32).take 2) ++ (((tL_law.drop 34).take 2) ++ (((tL_law.drop 36).take 2) ++ (((tL_law.drop 38).take 2) ++ (((tL_law.drop 40).take 2) ++ (((tL_law.drop 42).take 2) ++ (((tL_law.drop 44).take 2) ++ (((tL_law.drop 46).take 2) ++ (((tL_law.drop 48).take 2) ++ (((tL_law.drop 50).take 2) ++ (((tL_law.drop 52).take 2) ++ (((tL_law.drop 54).take 2) ++ (((tL_law.drop 56).take 2) ++ (((tL_law.drop 58).take 2) ++ (((tL_law.drop 60).take 2) ++ (((tL_law.drop 62).take 2)))))))))))))))))))))))))))))))) := rfl
  rw [e]
  exact okT_app okL0 (okT_app okL1 (okT_app okL2 (okT_app okL3 (okT_app okL4 (okT_app okL5 (okT_app okL6 (okT_app okL7 (okT_app okL8 (okT_app okL9 (okT_app okL10 (okT_app okL11 (okT_app okL12 (okT_app okL13 (okT_app okL14 (okT_app okL15 (okT_app okL16 (okT_app okL17 (okT_app okL18 (okT_app okL19 (okT_app okL20 (okT_app okL21 (okT_app okL22 (okT_app okL23 (okT_app okL24 (okT_app okL25 (okT_app okL26 (okT_app okL27 (okT_app okL28 (okT_app okL29 (okT_app okL30 (okL31)))))))))))))))))))))))))))))))
theorem nokL_law : tL_law.all (fun l => l.all (fun q => nOK 8 4 q.2)) = true := by decide +kernel
theorem tabL_law : tabOK 8 4 code tL_law = true := tabOK_mk okL_law nokL_law
def LWC : List Nat := [64, 65, 66, 67, 68, 69, 70, 71, 72, 73, 74, 75, 76, 77, 78, 79, 80, 81, 82, 83, 84, 85, 86, 87, 88, 89, 90, 91, 92, 93, 94, 95, 96, 97, 98, 99, 100, 101, 102, 103, 104, 105, 106, 107, 108, 109, 110, 111, 112, 113, 114, 115, 116, 117, 118, 119, 137, 147, 150, 151, 152, 153, 154, 156, 157, 159, 160, 161, 162, 164, 165, 166, 176, 178, 180, 181, 187, 188, 189, 191, 192, 194, 195, 196, 198, 200, 204, 205, 207, 208, 209, 210, 211, 214, 215, 216, 217, 219, 220, 221, 222, 223, 224, 225, 226, 227, 228, 230, 231, 234, 235, 236]
theorem chL_law : chT LWC tL_law = true := by decide +kernel
