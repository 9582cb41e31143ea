/-! THE SCRIPT STAYS: no call of the class writes it -/
def Kp {α : Type} (F : MM → Option (α × MM)) : Prop := ∀ m x m', F m = some (x, m') → m'.1 33 = m.1 33
theorem kp_of {j d : Nat} {as : List AV} {c : CallR} (h : Ctr launch0 (fun _ => 0, fun _ _ => 0) (fun _ => 0) Value.null (fun _ _ => 0) 0 0 (fun _ => 0) 0 d j) (e : look j as = some c) {m m' : MM} {v : Option AV} (a : ans c m v m') : m'.1 33 = m.1 33 := by
  funext i k
  exact ((h as c e).2 m v m' a).1.2 33 i k (by omega) (by omega)
theorem kp_status (a1 : Int32) : Kp (fX6_status 0 a1) := fun m x m' h => kp_of (j := 119) (as := [aR 6 0, aI a1]) (c := cRI (fX6_status 0 a1)) ct_X6_status rfl ⟨x, h, rfl⟩
theorem kp_back  : Kp (fX6_back 0) := fun m x m' h => kp_of (j := 118) (as := [aR 6 0]) (c := cRI (fX6_back 0)) ct_X6_back rfl ⟨x, h, rfl⟩
theorem kp_image  : Kp (fX6_image 0) := fun m x m' h => kp_of (j := 117) (as := [aR 6 0]) (c := cRI (fX6_image 0)) ct_X6_image rfl ⟨x, h, rfl⟩
theorem kp_seed (a1 : Int32) : Kp (fX6_seed 0 a1) := fun m x m' h => kp_of (j := 116) (as := [aR 6 0, aI a1]) (c := cRI (fX6_seed 0 a1)) ct_X6_seed rfl ⟨x, h, rfl⟩
theorem kp_drawn (a1 : Int32) : Kp (fX6_drawn 0 a1) := fun m x m' h => kp_of (j := 115) (as := [aR 6 0, aI a1]) (c := cRI (fX6_drawn 0 a1)) ct_X6_drawn rfl ⟨x, h, rfl⟩
theorem kp_days (a1 : Int32) : Kp (fX6_days 0 a1) := fun m x m' h => kp_of (j := 114) (as := [aR 6 0, aI a1]) (c := cRI (fX6_days 0 a1)) ct_X6_days rfl ⟨x, h, rfl⟩
theorem kp_thrown (a1 : Int32) (a2 : Int32) (a3 : Int32) (a4 : Int32) : Kp (fX6_thrown 0 a1 a2 a3 a4) := fun m x m' h => kp_of (j := 113) (as := [aR 6 0, aI a1, aI a2, aI a3, aI a4]) (c := cRI (fX6_thrown 0 a1 a2 a3 a4)) ct_X6_thrown rfl ⟨x, h, rfl⟩
theorem kp_judge (a1 : Int32) (a2 : Int32) (a3 : Int32) : Kp (fX6_judge 0 a1 a2 a3) := fun m x m' h => kp_of (j := 112) (as := [aR 6 0, aI a1, aI a2, aI a3]) (c := cRI (fX6_judge 0 a1 a2 a3)) ct_X6_judge rfl ⟨x, h, rfl⟩
theorem kp_ofKind (a1 : Int32) : Kp (fX6_ofKind 0 a1) := fun m x m' h => kp_of (j := 111) (as := [aR 6 0, aI a1]) (c := cRI (fX6_ofKind 0 a1)) ct_X6_ofKind rfl ⟨x, h, rfl⟩
theorem kp_strays  : Kp (fX6_strays 0) := fun m x m' h => kp_of (j := 110) (as := [aR 6 0]) (c := cRI (fX6_strays 0)) ct_X6_strays rfl ⟨x, h, rfl⟩
theorem kp_stays (a1 : Int32) (a2 : Int32) : Kp (fX6_stays 0 a1 a2) := fun m x m' h => kp_of (j := 109) (as := [aR 6 0, aI a1, aI a2]) (c := cRI (fX6_stays 0 a1 a2)) ct_X6_stays rfl ⟨x, h, rfl⟩
theorem kp_next (a1 : Int32) (a2 : Int32) (a3 : Int32) : Kp (fX6_next 0 a1 a2 a3) := fun m x m' h => kp_of (j := 108) (as := [aR 6 0, aI a1, aI a2, aI a3]) (c := cRI (fX6_next 0 a1 a2 a3)) ct_X6_next rfl ⟨x, h, rfl⟩
theorem kp_first (a1 : Int32) : Kp (fX6_first 0 a1) := fun m x m' h => kp_of (j := 107) (as := [aR 6 0, aI a1]) (c := cRI (fX6_first 0 a1)) ct_X6_first rfl ⟨x, h, rfl⟩
theorem kp_breaks (a1 : Int32) : Kp (fX6_breaks 0 a1) := fun m x m' h => kp_of (j := 106) (as := [aR 6 0, aI a1]) (c := cRI (fX6_breaks 0 a1)) ct_X6_breaks rfl ⟨x, h, rfl⟩
theorem kp_join (a1 : Int32) (a2 : Int32) : Kp (fX6_join 0 a1 a2) := fun m x m' h => kp_of (j := 105) (as := [aR 6 0, aI a1, aI a2]) (c := cRI (fX6_join 0 a1 a2)) ct_X6_join rfl ⟨x, h, rfl⟩
theorem kp_round (a1 : Int32) : Kp (fX6_round 0 a1) := fun m x m' h => kp_of (j := 104) (as := [aR 6 0, aI a1]) (c := cRI (fX6_round 0 a1)) ct_X6_round rfl ⟨x, h, rfl⟩
theorem kp_busiest (a1 : Int32) : Kp (fX6_busiest 0 a1) := fun m x m' h => kp_of (j := 103) (as := [aR 6 0, aI a1]) (c := cRI (fX6_busiest 0 a1)) ct_X6_busiest rfl ⟨x, h, rfl⟩
theorem kp_reach (a1 : Int32) (a2 : Int32) : Kp (fX6_reach 0 a1 a2) := fun m x m' h => kp_of (j := 102) (as := [aR 6 0, aI a1, aI a2]) (c := cRI (fX6_reach 0 a1 a2)) ct_X6_reach rfl ⟨x, h, rfl⟩
theorem kp_settles (a1 : Int32) : Kp (fX6_settles 0 a1) := fun m x m' h => kp_of (j := 101) (as := [aR 6 0, aI a1]) (c := cRI (fX6_settles 0 a1)) ct_X6_settles rfl ⟨x, h, rfl⟩
theorem kp_there (a1 : Int32) (a2 : Int32) : Kp (fX6_there 0 a1 a2) := fun m x m' h => kp_of (j := 100) (as := [aR 6 0, aI a1, aI a2]) (c := cRI (fX6_there 0 a1 a2)) ct_X6_there rfl ⟨x, h, rfl⟩
theorem kp_who (a1 : Int32) : Kp (fX6_who 0 a1) := fun m x m' h => kp_of (j := 99) (as := [aR 6 0, aI a1]) (c := cRI (fX6_who 0 a1)) ct_X6_who rfl ⟨x, h, rfl⟩
theorem kp_bestWind (a1 : Int32) (a2 : Int32) : Kp (fX6_bestWind 0 a1 a2) := fun m x m' h => kp_of (j := 98) (as := [aR 6 0, aI a1, aI a2]) (c := cRI (fX6_bestWind 0 a1 a2)) ct_X6_bestWind rfl ⟨x, h, rfl⟩
theorem kp_windFor (a1 : Int32) : Kp (fX6_windFor 0 a1) := fun m x m' h => kp_of (j := 97) (as := [aR 6 0, aI a1]) (c := cRI (fX6_windFor 0 a1)) ct_X6_windFor rfl ⟨x, h, rfl⟩
theorem kp_odds (a1 : Int32) (a2 : Int32) (a3 : Int32) : Kp (fX6_odds 0 a1 a2 a3) := fun m x m' h => kp_of (j := 96) (as := [aR 6 0, aI a1, aI a2, aI a3]) (c := cRI (fX6_odds 0 a1 a2 a3)) ct_X6_odds rfl ⟨x, h, rfl⟩
theorem kp_mended (a1 : Int32) (a2 : Int32) : Kp (fX6_mended 0 a1 a2) := fun m x m' h => kp_of (j := 95) (as := [aR 6 0, aI a1, aI a2]) (c := cRI (fX6_mended 0 a1 a2)) ct_X6_mended rfl ⟨x, h, rfl⟩
theorem kp_pairs (a1 : Int32) (a2 : Int32) : Kp (fX6_pairs 0 a1 a2) := fun m x m' h => kp_of (j := 94) (as := [aR 6 0, aI a1, aI a2]) (c := cRI (fX6_pairs 0 a1 a2)) ct_X6_pairs rfl ⟨x, h, rfl⟩
theorem kp_from (a1 : Int32) (a2 : Int32) (a3 : Int32) : Kp (fX6_from 0 a1 a2 a3) := fun m x m' h => kp_of (j := 93) (as := [aR 6 0, aI a1, aI a2, aI a3]) (c := cRI (fX6_from 0 a1 a2 a3)) ct_X6_from rfl ⟨x, h, rfl⟩
theorem kp_fits (a1 : Int32) (a2 : Int32) (a3 : Int32) (a4 : Int32) : Kp (fX6_fits 0 a1 a2 a3 a4) := fun m x m' h => kp_of (j := 92) (as := [aR 6 0, aI a1, aI a2, aI a3, aI a4]) (c := cRI (fX6_fits 0 a1 a2 a3 a4)) ct_X6_fits rfl ⟨x, h, rfl⟩
theorem kp_walk (a1 : Int32) (a2 : Int32) (a3 : Int32) : Kp (fX6_walk 0 a1 a2 a3) := fun m x m' h => kp_of (j := 91) (as := [aR 6 0, aI a1, aI a2, aI a3]) (c := cRI (fX6_walk 0 a1 a2 a3)) ct_X6_walk rfl ⟨x, h, rfl⟩
theorem kp_aim (a1 : Int32) (a2 : Int32) (a3 : Int32) (a4 : Int32) : Kp (fX6_aim 0 a1 a2 a3 a4) := fun m x m' h => kp_of (j := 90) (as := [aR 6 0, aI a1, aI a2, aI a3, aI a4]) (c := cRI (fX6_aim 0 a1 a2 a3 a4)) ct_X6_aim rfl ⟨x, h, rfl⟩
theorem kp_two (a1 : Int32) (a2 : Int32) : Kp (fX6_two 0 a1 a2) := fun m x m' h => kp_of (j := 89) (as := [aR 6 0, aI a1, aI a2]) (c := cRI (fX6_two 0 a1 a2)) ct_X6_two rfl ⟨x, h, rfl⟩
theorem kp_finder (a1 : Int32) : Kp (fX6_finder 0 a1) := fun m x m' h => kp_of (j := 88) (as := [aR 6 0, aI a1]) (c := cRI (fX6_finder 0 a1)) ct_X6_finder rfl ⟨x, h, rfl⟩
theorem kp_meets (a1 : Int32) (a2 : Int32) : Kp (fX6_meets 0 a1 a2) := fun m x m' h => kp_of (j := 87) (as := [aR 6 0, aI a1, aI a2]) (c := cRI (fX6_meets 0 a1 a2)) ct_X6_meets rfl ⟨x, h, rfl⟩
theorem kp_when (a1 : Int32) : Kp (fX6_when 0 a1) := fun m x m' h => kp_of (j := 86) (as := [aR 6 0, aI a1]) (c := cRI (fX6_when 0 a1)) ct_X6_when rfl ⟨x, h, rfl⟩
theorem kp_found (a1 : Int32) : Kp (fX6_found 0 a1) := fun m x m' h => kp_of (j := 85) (as := [aR 6 0, aI a1]) (c := cRI (fX6_found 0 a1)) ct_X6_found rfl ⟨x, h, rfl⟩
theorem kp_walks (a1 : Int32) (a2 : Int32) : Kp (fX6_walks 0 a1 a2) := fun m x m' h => kp_of (j := 84) (as := [aR 6 0, aI a1, aI a2]) (c := cRI (fX6_walks 0 a1 a2)) ct_X6_walks rfl ⟨x, h, rfl⟩
theorem kp_ahead (a1 : Int32) (a2 : Int32) (a3 : Int32) : Kp (fX6_ahead 0 a1 a2 a3) := fun m x m' h => kp_of (j := 83) (as := [aR 6 0, aI a1, aI a2, aI a3]) (c := cRI (fX6_ahead 0 a1 a2 a3)) ct_X6_ahead rfl ⟨x, h, rfl⟩
theorem kp_currentAt (a1 : Int32) : Kp (fX6_currentAt 0 a1) := fun m x m' h => kp_of (j := 82) (as := [aR 6 0, aI a1]) (c := cRI (fX6_currentAt 0 a1)) ct_X6_currentAt rfl ⟨x, h, rfl⟩
theorem kp_walkerOf (a1 : Int32) (a2 : Int32) : Kp (fX6_walkerOf 0 a1 a2) := fun m x m' h => kp_of (j := 81) (as := [aR 6 0, aI a1, aI a2]) (c := cRI (fX6_walkerOf 0 a1 a2)) ct_X6_walkerOf rfl ⟨x, h, rfl⟩
theorem kp_bottleOf (a1 : Int32) (a2 : Int32) : Kp (fX6_bottleOf 0 a1 a2) := fun m x m' h => kp_of (j := 80) (as := [aR 6 0, aI a1, aI a2]) (c := cRI (fX6_bottleOf 0 a1 a2)) ct_X6_bottleOf rfl ⟨x, h, rfl⟩
theorem kp_coast  : Kp (fX6_coast 0) := fun m x m' h => kp_of (j := 79) (as := [aR 6 0]) (c := cRI (fX6_coast 0)) ct_X6_coast rfl ⟨x, h, rfl⟩
theorem kp_wipe  : Kp (fX6_wipe 0) := fun m x m' h => kp_of (j := 78) (as := [aR 6 0]) (c := cRI (fX6_wipe 0)) ct_X6_wipe rfl ⟨x, h, rfl⟩
theorem kp_feed (a1 : Int32) : Kp (fX6_feed 0 a1) := fun m x m' h => kp_of (j := 77) (as := [aR 6 0, aI a1]) (c := cRI (fX6_feed 0 a1)) ct_X6_feed rfl ⟨x, h, rfl⟩
theorem kp_tell (a1 : Int32) (a2 : Int32) : Kp (fX6_tell 0 a1 a2) := fun m x m' h => kp_of (j := 76) (as := [aR 6 0, aI a1, aI a2]) (c := cRI (fX6_tell 0 a1 a2)) ct_X6_tell rfl ⟨x, h, rfl⟩
theorem kp_current (a1 : Int32) (a2 : Int32) : Kp (fX6_current 0 a1 a2) := fun m x m' h => kp_of (j := 75) (as := [aR 6 0, aI a1, aI a2]) (c := cRI (fX6_current 0 a1 a2)) ct_X6_current rfl ⟨x, h, rfl⟩
theorem kp_sends (a1 : Int32) (a2 : Int32) (a3 : Int32) : Kp (fX6_sends 0 a1 a2 a3) := fun m x m' h => kp_of (j := 74) (as := [aR 6 0, aI a1, aI a2, aI a3]) (c := cRI (fX6_sends 0 a1 a2 a3)) ct_X6_sends rfl ⟨x, h, rfl⟩
theorem kp_walker (a1 : Int32) (a2 : Int32) (a3 : Int32) : Kp (fX6_walker 0 a1 a2 a3) := fun m x m' h => kp_of (j := 73) (as := [aR 6 0, aI a1, aI a2, aI a3]) (c := cRI (fX6_walker 0 a1 a2 a3)) ct_X6_walker rfl ⟨x, h, rfl⟩
theorem kp_paves (a1 : Int32) : Kp (fX6_paves 0 a1) := fun m x m' h => kp_of (j := 72) (as := [aR 6 0, aI a1]) (c := cRI (fX6_paves 0 a1)) ct_X6_paves rfl ⟨x, h, rfl⟩
theorem kp_says (a1 : Int32) (a2 : Int32) : Kp (fX6_says 0 a1 a2) := fun m x m' h => kp_of (j := 71) (as := [aR 6 0, aI a1, aI a2]) (c := cRI (fX6_says 0 a1 a2)) ct_X6_says rfl ⟨x, h, rfl⟩
theorem kp_show (a1 : Int32) (a2 : Int32) : Kp (fX6_show 0 a1 a2) := fun m x m' h => kp_of (j := 70) (as := [aR 6 0, aI a1, aI a2]) (c := cRI (fX6_show 0 a1 a2)) ct_X6_show rfl ⟨x, h, rfl⟩
theorem kp_holds (a1 : Int32) : Kp (fX6_holds 0 a1) := fun m x m' h => kp_of (j := 69) (as := [aR 6 0, aI a1]) (c := cRI (fX6_holds 0 a1)) ct_X6_holds rfl ⟨x, h, rfl⟩
theorem kp_element (a1 : Int32) (a2 : Int32) : Kp (fX6_element 0 a1 a2) := fun m x m' h => kp_of (j := 68) (as := [aR 6 0, aI a1, aI a2]) (c := cRJ (fX6_element 0 a1 a2)) ct_X6_element rfl ⟨x, h, rfl⟩
theorem kp_copy (a1 : Int32) (a2 : Int32) (a3 : Int32) (a4 : Int32) (a5 : Int32) : Kp (fX6_copy 0 a1 a2 a3 a4 a5) := fun m x m' h => kp_of (j := 67) (as := [aR 6 0, aI a1, aI a2, aI a3, aI a4, aI a5]) (c := cRI (fX6_copy 0 a1 a2 a3 a4 a5)) ct_X6_copy rfl ⟨x, h, rfl⟩
theorem kp_set (a1 : Int32) (a2 : Int32) (a3 : Int64) : Kp (fX6_set 0 a1 a2 a3) := fun m x m' h => kp_of (j := 66) (as := [aR 6 0, aI a1, aI a2, aL a3]) (c := cRI (fX6_set 0 a1 a2 a3)) ct_X6_set rfl ⟨x, h, rfl⟩
theorem kp_row (a1 : Int32) (a2 : Int32) (a3 : Int32) : Kp (fX6_row 0 a1 a2 a3) := fun m x m' h => kp_of (j := 65) (as := [aR 6 0, aI a1, aI a2, aI a3]) (c := cRI (fX6_row 0 a1 a2 a3)) ct_X6_row rfl ⟨x, h, rfl⟩
