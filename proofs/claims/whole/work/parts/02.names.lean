/-! ===== BEGIN words of one list among another's, by their places ===== -/
theorem goodIn_r {big : List Cond} (ws : List Cond) (ps : List Nat) (hp : ws = ps.filterMap (fun i => big[i]?)) (h : ws.all goodWord = true) : GoodIn big ws := by
  intro w hw
  have h1 := List.all_eq_true.mp h w hw
  rw [hp] at hw
  obtain ⟨i, -, hi⟩ := List.mem_filterMap.mp hw
  have hm : w ∈ big := by first | exact List.mem_of_getElem? hi | exact List.getElem?_mem hi
  exact ⟨hm, good_of_word h1⟩
theorem goodIn_app {big a b : List Cond} (ha : GoodIn big a) (hb : GoodIn big b) : GoodIn big (a ++ b) := fun w h => (List.mem_append.mp h).elim (ha w) (hb w)
theorem goodIn_ca {big a b : List Cond} {c : Cond} (ha : GoodIn big (c :: a)) (hb : GoodIn big b) : GoodIn big (c :: (a ++ b)) := fun w h => (List.mem_cons.mp h).elim (fun e => ha w (List.mem_cons.mpr (Or.inl e))) (fun h => (List.mem_append.mp h).elim (fun h => ha w (List.mem_cons.mpr (Or.inr h))) (hb w))
theorem goodIn_sub {big ws : List Cond} (hm : ∀ w ∈ ws, w ∈ big) (h : ws.all goodWord = true) : GoodIn big ws := fun w hw => ⟨hm w hw, good_of_word (List.all_eq_true.mp h w hw)⟩
/-! ===== END ===== -/

/-! ===== BEGIN new T[n][m]: the outer array a place, the inner ones among the pooled ===== -/
/-- f, but v at every address of l -/
def vr_up {α : Type} (f : Nat → α) (l : List Nat) (v : α) : Nat → α := fun a => if a ∈ l then v else f a
theorem vr_up_in {α : Type} {f : Nat → α} {l : List Nat} {v : α} {a : Nat} (h : a ∈ l) : vr_up f l v a = v := if_pos h
theorem vr_up_ne {α : Type} {f : Nat → α} {l : List Nat} {v : α} {a : Nat} (h : a ∉ l) : vr_up f l v a = f a := if_neg h
theorem vr_rows {L l : List Nat} {f : Nat → va_E} {e : va_E} (h : ∀ a, a ∈ l → a ∉ L) : va_pl L f ++ l.map (fun a => (a, e)) = va_pl (L ++ l) (vr_up f l e) := by
  unfold va_pl
  rw [List.map_append]
  congr 1
  · apply List.map_congr_left
    intro a ha
    rw [vr_up_ne (fun q => h a q ha)]
  · apply List.map_congr_left
    intro a ha
    rw [vr_up_in ha]
theorem vr_lay {X rows : va_W} {x : Nat × va_E} {pl : va_W} {D : va_G} {cl : List vw_C} {H : Heap} (hP : va_P D cl (((X ++ pl) ++ [x]) ++ rows) H) : va_P D cl ((X ++ [x]) ++ (pl ++ rows)) H := by
  rw [List.append_assoc (X ++ pl)] at hP
  have h := va_P.swap hP
  rw [← List.append_assoc X] at h
  have h2 := va_P.swap h
  rw [List.append_assoc (X ++ [x])] at h2
  exact h2
theorem vr_layD {X rows : va_W} {x : Nat × va_E} {pl : va_W} {A : Nat → Prop} (hD : va_D A (((X ++ pl) ++ [x]) ++ rows)) : va_D A ((X ++ [x]) ++ (pl ++ rows)) := by
  rw [List.append_assoc (X ++ pl)] at hD
  have h := va_D.swap hD
  rw [← List.append_assoc X] at h
  have h2 := va_D.swap h
  rw [List.append_assoc (X ++ [x])] at h2
  exact h2
theorem vr_outer (c : ClassId) (N h0 : Nat) : ∀ i : Nat, Jvm.Free.Multi.outerC c N h0 i = arrV c N (fun j => va_rf (if j < i then some (h0 + 1 + j) else none))
  | 0 => by
    show ({ cls := c, slots := Array.replicate N .null, vm := .none } : Cell) = _
    rw [arrV_new]
    refine congrArg (arrV c N) (funext fun j => ?_)
    simp [va_rf]
  | i + 1 => by
    show (Jvm.Free.Multi.outerC c N h0 i).setSlot i (.ref (h0 + 1 + i)) = _
    rw [vr_outer c N h0 i, arrV_store]
    refine congrArg (arrV c N) (funext fun j => ?_)
    by_cases e : j = i
    · subst e
      simp [updV, va_rf]
    · by_cases h : j < i
      · simp [updV, e, h, Nat.lt_succ_of_lt h]
      · simp [updV, e, h, show ¬ j < i + 1 by omega]
/-- arrays of arrays: what the tables say (its name is the printed names' own, which nothing else defines) -/
def va_AOA (ty : FieldType) (U : State) : Prop := (Cond.arrayOver (.array ty)).before #[] U = true
theorem va_AOA.of {ty : FieldType} {A : Array Value} {U : State} (h : (Cond.arrayOver (.array ty)).before A U = true) : va_AOA ty U := h
theorem va_AOA.use {ty : FieldType} {A : Array Value} {U : State} (h : va_AOA ty U) : (Cond.arrayOver (.array ty)).before A U = true := h
section VGM
variable {p : Program} {l : Launch} {e : Env} {R : Room} {s : State} {m : MethodId} {args : Array Value} {below : List Frame} {meth : Method} {c : Code} {H : Heap} {locs : List Loc} {cells slots : Nat} {Q : State → Prop}
variable {cc : ByteArray} {pc : Nat} {ls : Array Slot} {rest : List Value} {D : va_G} {cl : List vw_C} {A : Nat → Prop} {a : Nat} {tys : List (ClassId × FieldType)} {ws : va_W} {H0 : Heap}
theorem va_mna {X : va_W} {L : List Nat} {f : Nat → va_E} {cc : ByteArray} (hexec : p.tables.exec = Jvm.exec) (hb : c.code = cc) {own : String} {index : Nat} {ty : FieldType} {cy : ClassId} (hown : s.vm.findClass own = some m.cls) (hclink : (Cond.classLink own index ("[" ++ (FieldType.array ty).toString)).before args s = true) (hover : va_AOA ty s) (harr : (Cond.arrayClass ty).before args s = true) (hcy : s.vm.findClass (FieldType.array ty).toString = some cy)
    (hK : va_K D cl tys s) (hP : va_P D cl (X ++ va_pl L f) H) (hD : va_D A (X ++ va_pl L f)) (hS : va_S A H0 H locs) (hA : ∀ q, H0.size ≤ q → A q) {n k : Int32} {N' K' : Nat} {z : vp_A} (hn : ¬ n < 0) (hk : ¬ k < 0) (hN : n.toNatClampNeg = N') (hM : k.toNatClampNeg = K')
    (hb1 : N' * 4 ≤ 536870912) (hb2 : K' * componentBytes ty ≤ 536870912) (hb3 : K' ≤ 536870912) (hdf : fits ty (defaultValue ty) = true) (hdd : (defaultValue ty).isDefault = true) (hcells : cells + (1 + N') ≤ R.cells) (hslots : slots + (N' + N' * K') ≤ R.slots) (hz : ∀ c : ClassId, Jvm.Free.Multi.innerC c K' (defaultValue ty) = vp_cell c z) (hdg : decode cc pc = .ok (.multianewarray index 2, 4))
    (kk : ∀ (q : Nat) (r : Nat → Nat) (cA : ClassId) (H1 : Heap), (∀ i j : Nat, i < N' → j < N' → r i = r j → i = j) → (∀ i : Nat, i < N' → r i ∉ L) → va_K D cl (tys ++ [(cA, .array ty)]) s →
      va_P D cl ((X ++ [(q, .inl (cA, N', .inr (.inr (.inr (.inr (fun i => if i < N' then some (r i) else none))))))]) ++ va_pl (L ++ (List.range N').map r) (vr_up f ((List.range N').map r) (.inl (cy, z)))) H1 → va_D A ((X ++ [(q, .inl (cA, N', .inr (.inr (.inr (.inr (fun i => if i < N' then some (r i) else none))))))]) ++ va_pl (L ++ (List.range N').map r) (vr_up f ((List.range N').map r) (.inl (cy, z)))) → va_S A H0 H1 locs →
      W p l e R s m args below meth c H1 locs (cells + 1 + N') (slots + N' + N' * K') Q (F0 m (pc + 4) ls (.ref q :: rest))) : W p l e R s m args below meth c H locs cells slots Q (F0 m pc ls (.int k :: .int n :: rest)) := by
  subst hN
  subst hM
  intro T hT Xs
  obtain ⟨vm₁, cA, comp, -, fA, fC, hO, -, X', step⟩ := Xs.multianewarray2F hexec hown hclink (va_AOA.use hover) harr (g := F0 m pc ls (.int k :: .int n :: rest)) rfl (by rw [hb]; exact hdg) rfl hn hk hb1 hb2 hb3 hdf hdd hcells hslots
  have ec : some cy = some comp := hcy.symm.trans fC
  cases ec
  generalize hF : Jvm.Free.Multi.fill (T.setVm vm₁) cA cy n.toNatClampNeg k.toNatClampNeg (defaultValue ty) n.toNatClampNeg = F at X' step
  have hTh : (T.setVm vm₁).heap = H := hT
  obtain ⟨f1, f2, -, -⟩ := Jvm.Free.Multi.fill_facts (T.setVm vm₁) cA cy n.toNatClampNeg k.toNatClampNeg (defaultValue ty) n.toNatClampNeg
  rw [hF, hTh] at f1 f2
  have hold : ∀ x : Nat, x < H.size → F.heap[x]? = H[x]? := fun x hx => by
    have := Jvm.Free.Multi.fill_old (T.setVm vm₁) cA cy n.toNatClampNeg k.toNatClampNeg (defaultValue ty) (a := x) (by rw [hTh]; exact hx) n.toNatClampNeg
    rw [hF, hTh] at this
    exact this
  have hrow : ∀ j : Nat, j < n.toNatClampNeg → F.heap[H.size + 1 + j]? = some (vp_cell cy z) := fun j hj => by
    have := Jvm.Free.Multi.fill_inner (T.setVm vm₁) cA cy n.toNatClampNeg k.toNatClampNeg (defaultValue ty) n.toNatClampNeg j hj
    rw [hF, hTh, hz] at this
    exact this
  have hout : Jvm.Free.Multi.outerC cA n.toNatClampNeg H.size n.toNatClampNeg = vp_cell cA (n.toNatClampNeg, .inr (.inr (.inr (.inr (fun i => if i < n.toNatClampNeg then some (H.size + 1 + i) else none))))) := by
    rw [vp_cell_q]
    exact vr_outer cA n.toNatClampNeg H.size n.toNatClampNeg
  rw [hout] at f2
  have hlt : ∀ a, a ∈ L → a < H.size := fun a ha => by
    obtain ⟨k9, hk9⟩ := va_pl_get (X := X) (f := f) ha
    exact (hP k9 _ hk9).lt
  have hnl : ∀ i : Nat, i < n.toNatClampNeg → H.size + 1 + i ∉ L := fun i _ h => by
    have := hlt _ h
    omega
  have hnm : ∀ a, a ∈ (List.range n.toNatClampNeg).map (fun i => H.size + 1 + i) → a ∉ L := fun a ha h => by
    obtain ⟨i, -, rfl⟩ := List.mem_map.mp ha
    have := hlt _ h
    omega
  have hP0 : va_P D cl (X ++ va_pl L f) F.heap := hP.kept (fun k9 x hx => hold x.1 ((hP k9 x hx).lt))
  have hP1 : va_P D cl ((X ++ va_pl L f) ++ [(H.size, .inl (cA, n.toNatClampNeg, .inr (.inr (.inr (.inr (fun i => if i < n.toNatClampNeg then some (H.size + 1 + i) else none))))))]) F.heap := hP0.app (fun k9 x hx => by
    have h0 : k9 < 1 := (List.getElem?_eq_some_iff.mp hx).1
    rw [show k9 = 0 by omega] at hx
    cases hx
    exact f2)
  have hP2 : va_P D cl (((X ++ va_pl L f) ++ [(H.size, .inl (cA, n.toNatClampNeg, .inr (.inr (.inr (.inr (fun i => if i < n.toNatClampNeg then some (H.size + 1 + i) else none))))))]) ++ ((List.range n.toNatClampNeg).map (fun i => H.size + 1 + i)).map (fun a => (a, .inl (cy, z)))) F.heap := hP1.app (fun k9 x hx => by
    obtain ⟨a, ha, rfl⟩ := List.mem_map.mp (List.mem_of_getElem? hx)
    obtain ⟨i, hi, rfl⟩ := List.mem_map.mp ha
    exact hrow i (List.mem_range.mp hi))
  have hD2 : va_D A (((X ++ va_pl L f) ++ [(H.size, .inl (cA, n.toNatClampNeg, .inr (.inr (.inr (.inr (fun i => if i < n.toNatClampNeg then some (H.size + 1 + i) else none))))))]) ++ ((List.range n.toNatClampNeg).map (fun i => H.size + 1 + i)).map (fun a => (a, .inl (cy, z)))) := by
    have hD1 := hD.push (e := .inl (cA, n.toNatClampNeg, .inr (.inr (.inr (.inr (fun i => if i < n.toNatClampNeg then some (H.size + 1 + i) else none)))))) hP rfl (hA _ hS.1)
    generalize hW1 : (X ++ va_pl L f) ++ [(H.size, .inl (cA, n.toNatClampNeg, .inr (.inr (.inr (.inr (fun i => if i < n.toNatClampNeg then some (H.size + 1 + i) else none))))))] = W1 at hD1 hP1 ⊢
    have hle : ∀ (k9 : Nat) (x : Nat × va_E), W1[k9]? = some x → x.1 ≤ H.size := fun k9 x hx => by
      rw [← hW1] at hx
      by_cases hl : k9 < (X ++ va_pl L f).length
      · rw [List.getElem?_append_left hl] at hx
        exact Nat.le_of_lt ((hP k9 x hx).lt)
      · rw [List.getElem?_append_right (by omega)] at hx
        have h0 : k9 - (X ++ va_pl L f).length < 1 := (List.getElem?_eq_some_iff.mp hx).1
        rw [show k9 - (X ++ va_pl L f).length = 0 by omega] at hx
        cases hx
        exact Nat.le_refl _
    have hr : ∀ (k9 : Nat) (x : Nat × va_E), (((List.range n.toNatClampNeg).map (fun i => H.size + 1 + i)).map (fun a => ((a, .inl (cy, z)) : Nat × va_E)))[k9]? = some x → x.1 = H.size + 1 + k9 := fun k9 x hx => by
      rw [List.getElem?_map, List.getElem?_map] at hx
      by_cases h9 : k9 < n.toNatClampNeg
      · rw [List.getElem?_range h9] at hx
        cases hx
        rfl
      · have hn0 : (List.range n.toNatClampNeg)[k9]? = none := List.getElem?_eq_none (by rw [List.length_range]; omega)
        rw [hn0] at hx
        cases hx
    refine ⟨fun i j x y hi hj hxy => ?_, fun k9 x hx => ?_⟩
    · by_cases h1 : i < W1.length <;> by_cases h2 : j < W1.length
      · rw [List.getElem?_append_left h1] at hi
        rw [List.getElem?_append_left h2] at hj
        exact hD1.1 i j x y hi hj hxy
      · rw [List.getElem?_append_left h1] at hi
        rw [List.getElem?_append_right (by omega)] at hj
        have := hle _ _ hi
        have := hr _ _ hj
        omega
      · rw [List.getElem?_append_right (by omega)] at hi
        rw [List.getElem?_append_left h2] at hj
        have := hle _ _ hj
        have := hr _ _ hi
        omega
      · rw [List.getElem?_append_right (by omega)] at hi hj
        have := hr _ _ hi
        have := hr _ _ hj
        omega
    · by_cases h1 : k9 < W1.length
      · rw [List.getElem?_append_left h1] at hx
        exact hD1.2 k9 x hx
      · rw [List.getElem?_append_right (by omega)] at hx
        have := hr _ _ hx
        exact hA _ (by have := hS.1; omega)
  have hAr : ArrOfT s cA (.array ty) := fun N9 z9 => by
    obtain ⟨-, k9, hk9, cm9, hkk9⟩ := (hO 0 0 0).1
    exact ⟨(fun q hq => by cases hq), k9, hk9, cm9, hkk9⟩
  have hK2 : va_K D cl (tys ++ [(cA, .array ty)]) s := ⟨hK.1, fun k9 x hx => by
    by_cases hl : k9 < tys.length
    · rw [List.getElem?_append_left hl] at hx
      exact hK.2 k9 x hx
    · rw [List.getElem?_append_right (by omega)] at hx
      have h0 : k9 - tys.length < 1 := (List.getElem?_eq_some_iff.mp hx).1
      rw [show k9 - tys.length = 0 by omega] at hx
      cases hx
      exact ⟨hAr, fA⟩⟩
  obtain ⟨t, a1, b1⟩ := kk H.size (fun i => H.size + 1 + i) cA F.heap (fun i j _ _ h => by have h9 : H.size + 1 + i = H.size + 1 + j := h; omega) hnl hK2 (by rw [← vr_rows hnm]; exact vr_lay hP2) (by rw [← vr_rows hnm]; exact vr_layD hD2) ⟨by rw [f1]; have := hS.1; omega, fun x h1 h2 => (hold x (Nat.lt_of_lt_of_le h1 hS.1)).trans (hS.2.1 x h1 h2), hS.2.2⟩ F rfl X'
  refine ⟨t, step t ?_, b1⟩
  have e : T.heap.size = H.size := by rw [hT]
  rw [e]
  exact a1
end VGM
/-! ===== END ===== -/
def RX0 : String := "AddressedToYou$Bottle"
def TX0 : u_T := fun k => match k with
  | 0 => ("AddressedToYou$Bottle", "kind", "I", false)
  | 1 => ("AddressedToYou$Bottle", "a", "I", false)
  | 2 => ("AddressedToYou$Bottle", "cell", "I", false)
  | 3 => ("AddressedToYou$Bottle", "whose", "I", false)
  | _ => ("AddressedToYou$Bottle", "how", "I", false)
def tyX0 : Nat → FieldType := fun k => match k with
  | 0 => .int
  | 1 => .int
  | 2 => .int
  | 3 => .int
  | _ => .int
abbrev wsX00 : List Cond := u_ws RX0 TX0 5
theorem nmX0 : ∀ a, a < 5 → ∀ b, b < 5 → a ≠ b → (TX0 a).2.1 ≠ (TX0 b).2.1 := by decide +kernel
theorem tyX0_ok : ∀ k, k < 5 → parseFieldDescriptor (TX0 k).2.2.1 = some (tyX0 k) := by decide +kernel
abbrev cX0_init : ByteArray := prog_2_method_1_code
def yX0_init : MethodName := ⟨RX0, "<init>", "()V"⟩
abbrev cX0_start : ByteArray := prog_2_method_2_code
def yX0_start : MethodName := ⟨RX0, "start", "(IIII)V"⟩
abbrev cX0_become : ByteArray := prog_2_method_3_code
def yX0_become : MethodName := ⟨RX0, "become", "(LAddressedToYou$Bottle;)V"⟩
abbrev cX0_tellOf : ByteArray := prog_2_method_4_code
def yX0_tellOf : MethodName := ⟨RX0, "tellOf", "(I)I"⟩
def RX1 : String := "AddressedToYou$Shelf"
def TX1 : u_T := fun k => match k with
  | 0 => ("AddressedToYou$Shelf", "content", "I", false)
  | 1 => ("AddressedToYou$Shelf", "size", "I", false)
  | _ => ("AddressedToYou$Shelf", "items", "[J", true)
def tyX1 : Nat → FieldType := fun k => match k with
  | 0 => .int
  | 1 => .int
  | _ => .array .long
abbrev wsX10 : List Cond := u_ws RX1 TX1 3
theorem nmX1 : ∀ a, a < 3 → ∀ b, b < 3 → a ≠ b → (TX1 a).2.1 ≠ (TX1 b).2.1 := by decide +kernel
theorem tyX1_ok : ∀ k, k < 3 → parseFieldDescriptor (TX1 k).2.2.1 = some (tyX1 k) := by decide +kernel
abbrev cX1_init : ByteArray := prog_3_method_1_code
def yX1_init : MethodName := ⟨RX1, "<init>", "()V"⟩
abbrev cX1_isEmpty : ByteArray := prog_3_method_2_code
def yX1_isEmpty : MethodName := ⟨RX1, "isEmpty", "()Z"⟩
abbrev cX1_isRow : ByteArray := prog_3_method_3_code
def yX1_isRow : MethodName := ⟨RX1, "isRow", "()Z"⟩
abbrev cX1_isBottle : ByteArray := prog_3_method_4_code
def yX1_isBottle : MethodName := ⟨RX1, "isBottle", "()Z"⟩
abbrev cX1_whyNoRow : ByteArray := prog_3_method_5_code
def yX1_whyNoRow : MethodName := ⟨RX1, "whyNoRow", "()I"⟩
abbrev cX1_hasPlace : ByteArray := prog_3_method_6_code
def yX1_hasPlace : MethodName := ⟨RX1, "hasPlace", "(I)Z"⟩
abbrev cX1_hasSpan : ByteArray := prog_3_method_7_code
def yX1_hasSpan : MethodName := ⟨RX1, "hasSpan", "(II)Z"⟩
abbrev cX1_startRow : ByteArray := prog_3_method_8_code
def yX1_startRow : MethodName := ⟨RX1, "startRow", "(II)V"⟩
abbrev cX1_put : ByteArray := prog_3_method_9_code
def yX1_put : MethodName := ⟨RX1, "put", "(IJ)V"⟩
abbrev cX1_take : ByteArray := prog_3_method_10_code
def yX1_take : MethodName := ⟨RX1, "take", "(I)J"⟩
abbrev cX1_narrowed : ByteArray := prog_3_method_11_code
def yX1_narrowed : MethodName := ⟨RX1, "narrowed", "(J)J"⟩
def RX2 : String := "AddressedToYou$Tape"
def TX2 : u_T := fun k => match k with
  | 0 => ("AddressedToYou$Tape", "size", "I", false)
  | 1 => ("AddressedToYou$Tape", "start", "I", false)
  | 2 => ("AddressedToYou$Tape", "bytes", "[I", true)
  | 3 => ("AddressedToYou$Tape", "place", "I", false)
  | 4 => ("AddressedToYou$Tape", "token", "I", false)
  | 5 => ("AddressedToYou$Tape", "value", "I", false)
  | _ => ("AddressedToYou$Tape", "numbers", "[I", true)
def tyX2 : Nat → FieldType := fun k => match k with
  | 0 => .int
  | 1 => .int
  | 2 => .array .int
  | 3 => .int
  | 4 => .int
  | 5 => .int
  | _ => .array .int
abbrev wsX20 : List Cond := u_ws RX2 TX2 7
theorem nmX2 : ∀ a, a < 7 → ∀ b, b < 7 → a ≠ b → (TX2 a).2.1 ≠ (TX2 b).2.1 := by decide +kernel
theorem tyX2_ok : ∀ k, k < 7 → parseFieldDescriptor (TX2 k).2.2.1 = some (tyX2 k) := by decide +kernel
abbrev cX2_init : ByteArray := prog_4_method_1_code
def yX2_init : MethodName := ⟨RX2, "<init>", "()V"⟩
abbrev cX2_hasRoom : ByteArray := prog_4_method_2_code
def yX2_hasRoom : MethodName := ⟨RX2, "hasRoom", "()Z"⟩
abbrev cX2_append : ByteArray := prog_4_method_3_code
def yX2_append : MethodName := ⟨RX2, "append", "(I)I"⟩
abbrev cX2_readInto : ByteArray := prog_4_method_4_code
def yX2_readInto : MethodName := ⟨RX2, "readInto", "(LAddressedToYou$World;)I"⟩
abbrev cX2_readStatement : ByteArray := prog_4_method_5_code
def yX2_readStatement : MethodName := ⟨RX2, "readStatement", "(LAddressedToYou$World;)Z"⟩
abbrev cX2_perform : ByteArray := prog_4_method_6_code
def yX2_perform : MethodName := ⟨RX2, "perform", "(LAddressedToYou$World;I)V"⟩
abbrev cX2_numbersOf : ByteArray := prog_4_method_7_code
def yX2_numbersOf : MethodName := ⟨RX2, "numbersOf", "(I)I"⟩
abbrev cX2_mostOf : ByteArray := prog_4_method_8_code
def yX2_mostOf : MethodName := ⟨RX2, "mostOf", "(LAddressedToYou$World;II)I"⟩
abbrev cX2_wordNumber : ByteArray := prog_4_method_9_code
def yX2_wordNumber : MethodName := ⟨RX2, "wordNumber", "()I"⟩
abbrev cX2_spells : ByteArray := prog_4_method_10_code
def yX2_spells : MethodName := ⟨RX2, "spells", "(Ljava/lang/String;)Z"⟩
abbrev cX2_byteAt : ByteArray := prog_4_method_11_code
def yX2_byteAt : MethodName := ⟨RX2, "byteAt", "(I)I"⟩
abbrev cX2_isLetter : ByteArray := prog_4_method_12_code
def yX2_isLetter : MethodName := ⟨RX2, "isLetter", "(I)Z"⟩
abbrev cX2_isDigit : ByteArray := prog_4_method_13_code
def yX2_isDigit : MethodName := ⟨RX2, "isDigit", "(I)Z"⟩
abbrev cX2_scan : ByteArray := prog_4_method_14_code
def yX2_scan : MethodName := ⟨RX2, "scan", "()V"⟩
abbrev cX2_scanNumber : ByteArray := prog_4_method_15_code
def yX2_scanNumber : MethodName := ⟨RX2, "scanNumber", "()V"⟩
def RX3 : String := "AddressedToYou$Track"
def TX3 : u_T := fun k => match k with
  | 0 => ("AddressedToYou$Track", "cells", "[I", true)
  | _ => ("AddressedToYou$Track", "hows", "[I", true)
def tyX3 : Nat → FieldType := fun k => match k with
  | 0 => .array .int
  | _ => .array .int
abbrev wsX30 : List Cond := u_ws RX3 TX3 2
theorem nmX3 : ∀ a, a < 2 → ∀ b, b < 2 → a ≠ b → (TX3 a).2.1 ≠ (TX3 b).2.1 := by decide +kernel
theorem tyX3_ok : ∀ k, k < 2 → parseFieldDescriptor (TX3 k).2.2.1 = some (tyX3 k) := by decide +kernel
abbrev cX3_init : ByteArray := prog_5_method_1_code
def yX3_init : MethodName := ⟨RX3, "<init>", "()V"⟩
abbrev cX3_mark : ByteArray := prog_5_method_2_code
def yX3_mark : MethodName := ⟨RX3, "mark", "(ILAddressedToYou$Bottle;)V"⟩
abbrev cX3_cellAt : ByteArray := prog_5_method_3_code
def yX3_cellAt : MethodName := ⟨RX3, "cellAt", "(I)I"⟩
abbrev cX3_howAt : ByteArray := prog_5_method_4_code
def yX3_howAt : MethodName := ⟨RX3, "howAt", "(I)I"⟩
abbrev cX3_cellsVisited : ByteArray := prog_5_method_5_code
def yX3_cellsVisited : MethodName := ⟨RX3, "cellsVisited", "(I)I"⟩
def RX4 : String := "AddressedToYou$Walker"
def TX4 : u_T := fun k => match k with
  | 0 => ("AddressedToYou$Walker", "at", "I", false)
  | 1 => ("AddressedToYou$Walker", "pace", "I", false)
  | _ => ("AddressedToYou$Walker", "way", "I", false)
def tyX4 : Nat → FieldType := fun k => match k with
  | 0 => .int
  | 1 => .int
  | _ => .int
abbrev wsX40 : List Cond := u_ws RX4 TX4 3
theorem nmX4 : ∀ a, a < 3 → ∀ b, b < 3 → a ≠ b → (TX4 a).2.1 ≠ (TX4 b).2.1 := by decide +kernel
theorem tyX4_ok : ∀ k, k < 3 → parseFieldDescriptor (TX4 k).2.2.1 = some (tyX4 k) := by decide +kernel
abbrev cX4_init : ByteArray := prog_6_method_1_code
def yX4_init : MethodName := ⟨RX4, "<init>", "()V"⟩
abbrev cX4_start : ByteArray := prog_6_method_2_code
def yX4_start : MethodName := ⟨RX4, "start", "(III)V"⟩
abbrev cX4_become : ByteArray := prog_6_method_3_code
def yX4_become : MethodName := ⟨RX4, "become", "(LAddressedToYou$Walker;)V"⟩
abbrev cX4_tellOf : ByteArray := prog_6_method_4_code
def yX4_tellOf : MethodName := ⟨RX4, "tellOf", "(I)I"⟩
abbrev cX4_stroll : ByteArray := prog_6_method_5_code
def yX4_stroll : MethodName := ⟨RX4, "stroll", "(I)V"⟩
def RX5 : String := "AddressedToYou$World"
def TX5 : u_T := fun k => match k with
  | 0 => ("AddressedToYou$World", "cells", "I", false)
  | 1 => ("AddressedToYou$World", "wind", "I", false)
  | 2 => ("AddressedToYou$World", "day", "I", false)
  | 3 => ("AddressedToYou$World", "answered", "I", false)
  | 4 => ("AddressedToYou$World", "seed", "I", false)
  | 5 => ("AddressedToYou$World", "bottleCount", "I", false)
  | 6 => ("AddressedToYou$World", "walkerCount", "I", false)
  | 7 => ("AddressedToYou$World", "currents", "[I", true)
  | 8 => ("AddressedToYou$World", "bottles", "[LAddressedToYou$Bottle;", true)
  | 9 => ("AddressedToYou$World", "walkers", "[LAddressedToYou$Walker;", true)
  | 10 => ("AddressedToYou$World", "roamer", "LAddressedToYou$Bottle;", true)
  | _ => ("AddressedToYou$World", "pacer", "LAddressedToYou$Walker;", true)
def tyX5 : Nat → FieldType := fun k => match k with
  | 0 => .int
  | 1 => .int
  | 2 => .int
  | 3 => .int
  | 4 => .int
  | 5 => .int
  | 6 => .int
  | 7 => .array .int
  | 8 => .array (.object "AddressedToYou$Bottle")
  | 9 => .array (.object "AddressedToYou$Walker")
  | 10 => .object "AddressedToYou$Bottle"
  | _ => .object "AddressedToYou$Walker"
abbrev wsX50 : List Cond := u_ws RX5 TX5 12
theorem nmX5 : ∀ a, a < 12 → ∀ b, b < 12 → a ≠ b → (TX5 a).2.1 ≠ (TX5 b).2.1 := by decide +kernel
theorem tyX5_ok : ∀ k, k < 12 → parseFieldDescriptor (TX5 k).2.2.1 = some (tyX5 k) := by decide +kernel
abbrev cX5_init : ByteArray := prog_7_method_1_code
def yX5_init : MethodName := ⟨RX5, "<init>", "()V"⟩
abbrev cX5_become : ByteArray := prog_7_method_2_code
def yX5_become : MethodName := ⟨RX5, "become", "(LAddressedToYou$World;)V"⟩
abbrev cX5_bottleAt : ByteArray := prog_7_method_3_code
def yX5_bottleAt : MethodName := ⟨RX5, "bottleAt", "(I)LAddressedToYou$Bottle;"⟩
abbrev cX5_walkerAt : ByteArray := prog_7_method_4_code
def yX5_walkerAt : MethodName := ⟨RX5, "walkerAt", "(I)LAddressedToYou$Walker;"⟩
abbrev cX5_hasCell : ByteArray := prog_7_method_5_code
def yX5_hasCell : MethodName := ⟨RX5, "hasCell", "(I)Z"⟩
abbrev cX5_hasRoomForBottle : ByteArray := prog_7_method_6_code
def yX5_hasRoomForBottle : MethodName := ⟨RX5, "hasRoomForBottle", "()Z"⟩
abbrev cX5_hasRoomForWalker : ByteArray := prog_7_method_7_code
def yX5_hasRoomForWalker : MethodName := ⟨RX5, "hasRoomForWalker", "()Z"⟩
abbrev cX5_flow : ByteArray := prog_7_method_8_code
def yX5_flow : MethodName := ⟨RX5, "flow", "(I)I"⟩
abbrev cX5_setFlow : ByteArray := prog_7_method_9_code
def yX5_setFlow : MethodName := ⟨RX5, "setFlow", "(II)V"⟩
abbrev cX5_addBottle : ByteArray := prog_7_method_10_code
def yX5_addBottle : MethodName := ⟨RX5, "addBottle", "(IIII)I"⟩
abbrev cX5_addWalker : ByteArray := prog_7_method_11_code
def yX5_addWalker : MethodName := ⟨RX5, "addWalker", "(III)I"⟩
abbrev cX5_addressedTo : ByteArray := prog_7_method_12_code
def yX5_addressedTo : MethodName := ⟨RX5, "addressedTo", "(I)I"⟩
abbrev cX5_afloatIn : ByteArray := prog_7_method_13_code
def yX5_afloatIn : MethodName := ⟨RX5, "afloatIn", "(I)I"⟩
abbrev cX5_walkersAt : ByteArray := prog_7_method_14_code
def yX5_walkersAt : MethodName := ⟨RX5, "walkersAt", "(I)I"⟩
abbrev cX5_dayBehind : ByteArray := prog_7_method_15_code
def yX5_dayBehind : MethodName := ⟨RX5, "dayBehind", "(I)I"⟩
abbrev cX5_push : ByteArray := prog_7_method_16_code
def yX5_push : MethodName := ⟨RX5, "push", "(LAddressedToYou$Bottle;I)I"⟩
abbrev cX5_spend : ByteArray := prog_7_method_17_code
def yX5_spend : MethodName := ⟨RX5, "spend", "(LAddressedToYou$Bottle;II)V"⟩
abbrev cX5_follow : ByteArray := prog_7_method_18_code
def yX5_follow : MethodName := ⟨RX5, "follow", "(LAddressedToYou$Track;LAddressedToYou$Bottle;LAddressedToYou$Walker;I)V"⟩
abbrev cX5_soonest : ByteArray := prog_7_method_19_code
def yX5_soonest : MethodName := ⟨RX5, "soonest", "(LAddressedToYou$Bottle;LAddressedToYou$Walker;I)I"⟩
abbrev cX5_daysTillFound : ByteArray := prog_7_method_20_code
def yX5_daysTillFound : MethodName := ⟨RX5, "daysTillFound", "(LAddressedToYou$Bottle;)I"⟩
abbrev cX5_countFound : ByteArray := prog_7_method_21_code
def yX5_countFound : MethodName := ⟨RX5, "countFound", "(I)I"⟩
abbrev cX5_passDay : ByteArray := prog_7_method_22_code
def yX5_passDay : MethodName := ⟨RX5, "passDay", "()I"⟩
abbrev cX5_passDrawnDay : ByteArray := prog_7_method_23_code
def yX5_passDrawnDay : MethodName := ⟨RX5, "passDrawnDay", "()I"⟩
abbrev cX5_draw : ByteArray := prog_7_method_24_code
def yX5_draw : MethodName := ⟨RX5, "draw", "(I)I"⟩
def RX6 : String := "AddressedToYou"
def TX6 : u_T := fun k => match k with
  | 0 => ("AddressedToYou", "now", "LAddressedToYou$World;", true)
  | 1 => ("AddressedToYou", "kept", "LAddressedToYou$World;", true)
  | 2 => ("AddressedToYou", "trial", "LAddressedToYou$World;", true)
  | 3 => ("AddressedToYou", "hasImage", "Z", false)
  | 4 => ("AddressedToYou", "shelves", "[LAddressedToYou$Shelf;", true)
  | 5 => ("AddressedToYou", "tape", "LAddressedToYou$Tape;", true)
  | 6 => ("AddressedToYou", "refusals", "[I", true)
  | 7 => ("AddressedToYou", "track", "LAddressedToYou$Track;", true)
  | 8 => ("AddressedToYou", "otherTrack", "LAddressedToYou$Track;", true)
  | 9 => ("AddressedToYou", "thought", "LAddressedToYou$Bottle;", true)
  | 10 => ("AddressedToYou", "stroller", "LAddressedToYou$Walker;", true)
  | 11 => ("AddressedToYou", "otherStroller", "LAddressedToYou$Walker;", true)
  | 12 => ("AddressedToYou", "visited", "[I", true)
  | 13 => ("AddressedToYou", "meetings", "[[I", true)
  | _ => ("AddressedToYou", "bestPairs", "[[I", true)
def tyX6 : Nat → FieldType := fun k => match k with
  | 0 => .object "AddressedToYou$World"
  | 1 => .object "AddressedToYou$World"
  | 2 => .object "AddressedToYou$World"
  | 3 => .boolean
  | 4 => .array (.object "AddressedToYou$Shelf")
  | 5 => .object "AddressedToYou$Tape"
  | 6 => .array .int
  | 7 => .object "AddressedToYou$Track"
  | 8 => .object "AddressedToYou$Track"
  | 9 => .object "AddressedToYou$Bottle"
  | 10 => .object "AddressedToYou$Walker"
  | 11 => .object "AddressedToYou$Walker"
  | 12 => .array .int
  | 13 => .array (.array .int)
  | _ => .array (.array .int)
abbrev wsX60 : List Cond := u_ws RX6 TX6 15
theorem nmX6 : ∀ a, a < 15 → ∀ b, b < 15 → a ≠ b → (TX6 a).2.1 ≠ (TX6 b).2.1 := by decide +kernel
theorem tyX6_ok : ∀ k, k < 15 → parseFieldDescriptor (TX6 k).2.2.1 = some (tyX6 k) := by decide +kernel
abbrev cX6_init : ByteArray := prog_1_method_1_code
def yX6_init : MethodName := ⟨RX6, "<init>", "()V"⟩
abbrev cX6_row : ByteArray := prog_1_method_2_code
def yX6_row : MethodName := ⟨RX6, "row", "(III)I"⟩
abbrev cX6_set : ByteArray := prog_1_method_3_code
def yX6_set : MethodName := ⟨RX6, "set", "(IIJ)I"⟩
abbrev cX6_copy : ByteArray := prog_1_method_4_code
def yX6_copy : MethodName := ⟨RX6, "copy", "(IIIII)I"⟩
abbrev cX6_element : ByteArray := prog_1_method_5_code
def yX6_element : MethodName := ⟨RX6, "element", "(II)J"⟩
abbrev cX6_holds : ByteArray := prog_1_method_6_code
def yX6_holds : MethodName := ⟨RX6, "holds", "(I)I"⟩
abbrev cX6_show : ByteArray := prog_1_method_7_code
def yX6_show : MethodName := ⟨RX6, "show", "(II)I"⟩
abbrev cX6_says : ByteArray := prog_1_method_8_code
def yX6_says : MethodName := ⟨RX6, "says", "(II)I"⟩
abbrev cX6_paves : ByteArray := prog_1_method_9_code
def yX6_paves : MethodName := ⟨RX6, "paves", "(I)I"⟩
abbrev cX6_walker : ByteArray := prog_1_method_10_code
def yX6_walker : MethodName := ⟨RX6, "walker", "(III)I"⟩
abbrev cX6_sends : ByteArray := prog_1_method_11_code
def yX6_sends : MethodName := ⟨RX6, "sends", "(III)I"⟩
abbrev cX6_current : ByteArray := prog_1_method_12_code
def yX6_current : MethodName := ⟨RX6, "current", "(II)I"⟩
abbrev cX6_tell : ByteArray := prog_1_method_13_code
def yX6_tell : MethodName := ⟨RX6, "tell", "(II)I"⟩
abbrev cX6_feed : ByteArray := prog_1_method_14_code
def yX6_feed : MethodName := ⟨RX6, "feed", "(I)I"⟩
abbrev cX6_wipe : ByteArray := prog_1_method_15_code
def yX6_wipe : MethodName := ⟨RX6, "wipe", "()I"⟩
abbrev cX6_coast : ByteArray := prog_1_method_16_code
def yX6_coast : MethodName := ⟨RX6, "coast", "()I"⟩
abbrev cX6_bottleOf : ByteArray := prog_1_method_17_code
def yX6_bottleOf : MethodName := ⟨RX6, "bottleOf", "(II)I"⟩
abbrev cX6_walkerOf : ByteArray := prog_1_method_18_code
def yX6_walkerOf : MethodName := ⟨RX6, "walkerOf", "(II)I"⟩
abbrev cX6_currentAt : ByteArray := prog_1_method_19_code
def yX6_currentAt : MethodName := ⟨RX6, "currentAt", "(I)I"⟩
abbrev cX6_ahead : ByteArray := prog_1_method_20_code
def yX6_ahead : MethodName := ⟨RX6, "ahead", "(III)I"⟩
abbrev cX6_walks : ByteArray := prog_1_method_21_code
def yX6_walks : MethodName := ⟨RX6, "walks", "(II)I"⟩
abbrev cX6_found : ByteArray := prog_1_method_22_code
def yX6_found : MethodName := ⟨RX6, "found", "(I)I"⟩
abbrev cX6_when : ByteArray := prog_1_method_23_code
def yX6_when : MethodName := ⟨RX6, "when", "(I)I"⟩
abbrev cX6_meets : ByteArray := prog_1_method_24_code
def yX6_meets : MethodName := ⟨RX6, "meets", "(II)I"⟩
abbrev cX6_finder : ByteArray := prog_1_method_25_code
def yX6_finder : MethodName := ⟨RX6, "finder", "(I)I"⟩
abbrev cX6_two : ByteArray := prog_1_method_26_code
def yX6_two : MethodName := ⟨RX6, "two", "(II)I"⟩
abbrev cX6_aim : ByteArray := prog_1_method_27_code
def yX6_aim : MethodName := ⟨RX6, "aim", "(IIII)I"⟩
abbrev cX6_walk : ByteArray := prog_1_method_28_code
def yX6_walk : MethodName := ⟨RX6, "walk", "(III)I"⟩
abbrev cX6_fits : ByteArray := prog_1_method_29_code
def yX6_fits : MethodName := ⟨RX6, "fits", "(IIII)I"⟩
abbrev cX6_from : ByteArray := prog_1_method_30_code
def yX6_from : MethodName := ⟨RX6, "from", "(III)I"⟩
abbrev cX6_pairs : ByteArray := prog_1_method_31_code
def yX6_pairs : MethodName := ⟨RX6, "pairs", "(II)I"⟩
abbrev cX6_mended : ByteArray := prog_1_method_32_code
def yX6_mended : MethodName := ⟨RX6, "mended", "(II)I"⟩
abbrev cX6_odds : ByteArray := prog_1_method_33_code
def yX6_odds : MethodName := ⟨RX6, "odds", "(III)I"⟩
abbrev cX6_windFor : ByteArray := prog_1_method_34_code
def yX6_windFor : MethodName := ⟨RX6, "windFor", "(I)I"⟩
abbrev cX6_bestWind : ByteArray := prog_1_method_35_code
def yX6_bestWind : MethodName := ⟨RX6, "bestWind", "(II)I"⟩
abbrev cX6_who : ByteArray := prog_1_method_36_code
def yX6_who : MethodName := ⟨RX6, "who", "(I)I"⟩
abbrev cX6_there : ByteArray := prog_1_method_37_code
def yX6_there : MethodName := ⟨RX6, "there", "(II)I"⟩
abbrev cX6_settles : ByteArray := prog_1_method_38_code
def yX6_settles : MethodName := ⟨RX6, "settles", "(I)I"⟩
abbrev cX6_reach : ByteArray := prog_1_method_39_code
def yX6_reach : MethodName := ⟨RX6, "reach", "(II)I"⟩
abbrev cX6_busiest : ByteArray := prog_1_method_40_code
def yX6_busiest : MethodName := ⟨RX6, "busiest", "(I)I"⟩
abbrev cX6_round : ByteArray := prog_1_method_41_code
def yX6_round : MethodName := ⟨RX6, "round", "(I)I"⟩
abbrev cX6_join : ByteArray := prog_1_method_42_code
def yX6_join : MethodName := ⟨RX6, "join", "(II)I"⟩
abbrev cX6_breaks : ByteArray := prog_1_method_43_code
def yX6_breaks : MethodName := ⟨RX6, "breaks", "(I)I"⟩
abbrev cX6_first : ByteArray := prog_1_method_44_code
def yX6_first : MethodName := ⟨RX6, "first", "(I)I"⟩
abbrev cX6_next : ByteArray := prog_1_method_45_code
def yX6_next : MethodName := ⟨RX6, "next", "(III)I"⟩
abbrev cX6_stays : ByteArray := prog_1_method_46_code
def yX6_stays : MethodName := ⟨RX6, "stays", "(II)I"⟩
abbrev cX6_strays : ByteArray := prog_1_method_47_code
def yX6_strays : MethodName := ⟨RX6, "strays", "()I"⟩
abbrev cX6_ofKind : ByteArray := prog_1_method_48_code
def yX6_ofKind : MethodName := ⟨RX6, "ofKind", "(I)I"⟩
abbrev cX6_judge : ByteArray := prog_1_method_49_code
def yX6_judge : MethodName := ⟨RX6, "judge", "(III)I"⟩
abbrev cX6_thrown : ByteArray := prog_1_method_50_code
def yX6_thrown : MethodName := ⟨RX6, "thrown", "(IIII)I"⟩
abbrev cX6_days : ByteArray := prog_1_method_51_code
def yX6_days : MethodName := ⟨RX6, "days", "(I)I"⟩
abbrev cX6_drawn : ByteArray := prog_1_method_52_code
def yX6_drawn : MethodName := ⟨RX6, "drawn", "(I)I"⟩
abbrev cX6_seed : ByteArray := prog_1_method_53_code
def yX6_seed : MethodName := ⟨RX6, "seed", "(I)I"⟩
abbrev cX6_image : ByteArray := prog_1_method_54_code
def yX6_image : MethodName := ⟨RX6, "image", "()I"⟩
abbrev cX6_back : ByteArray := prog_1_method_55_code
def yX6_back : MethodName := ⟨RX6, "back", "()I"⟩
abbrev cX6_status : ByteArray := prog_1_method_56_code
def yX6_status : MethodName := ⟨RX6, "status", "(I)I"⟩
abbrev cX6_within : ByteArray := prog_1_method_57_code
def yX6_within : MethodName := ⟨RX6, "within", "(III)Z"⟩
abbrev cX6_isKind : ByteArray := prog_1_method_58_code
def yX6_isKind : MethodName := ⟨RX6, "isKind", "(I)Z"⟩
abbrev cX6_isOrIsUnder : ByteArray := prog_1_method_59_code
def yX6_isOrIsUnder : MethodName := ⟨RX6, "isOrIsUnder", "(II)Z"⟩
abbrev cX6_toughnessOf : ByteArray := prog_1_method_60_code
def yX6_toughnessOf : MethodName := ⟨RX6, "toughnessOf", "(II)I"⟩
abbrev cX6_refuse : ByteArray := prog_1_method_61_code
def yX6_refuse : MethodName := ⟨RX6, "refuse", "(I)I"⟩
abbrev cX6_shelfAt : ByteArray := prog_1_method_62_code
def yX6_shelfAt : MethodName := ⟨RX6, "shelfAt", "(I)LAddressedToYou$Shelf;"⟩
abbrev cX6_shelvesInUse : ByteArray := prog_1_method_63_code
def yX6_shelvesInUse : MethodName := ⟨RX6, "shelvesInUse", "()I"⟩
abbrev cX6_firstMeeting : ByteArray := prog_1_method_64_code
def yX6_firstMeeting : MethodName := ⟨RX6, "firstMeeting", "(LAddressedToYou$Walker;I)I"⟩
abbrev cX6_foundWalking : ByteArray := prog_1_method_65_code
def yX6_foundWalking : MethodName := ⟨RX6, "foundWalking", "(IIII)I"⟩
abbrev cX6_driftsAlong : ByteArray := prog_1_method_66_code
def yX6_driftsAlong : MethodName := ⟨RX6, "driftsAlong", "(LAddressedToYou$Shelf;III)Z"⟩
abbrev cX6_endsBy : ByteArray := prog_1_method_67_code
def yX6_endsBy : MethodName := ⟨RX6, "endsBy", "(LAddressedToYou$Bottle;II)I"⟩
abbrev cX6_fillVisited : ByteArray := prog_1_method_68_code
def yX6_fillVisited : MethodName := ⟨RX6, "fillVisited", "()V"⟩
abbrev cX6_fillMeetings : ByteArray := prog_1_method_69_code
def yX6_fillMeetings : MethodName := ⟨RX6, "fillMeetings", "(I)V"⟩
abbrev cX6_fillBestPairs : ByteArray := prog_1_method_70_code
def yX6_fillBestPairs : MethodName := ⟨RX6, "fillBestPairs", "()V"⟩
abbrev cX6_bestFrom : ByteArray := prog_1_method_71_code
def yX6_bestFrom : MethodName := ⟨RX6, "bestFrom", "(II)I"⟩
abbrev cX6_pairingScore : ByteArray := prog_1_method_72_code
def yX6_pairingScore : MethodName := ⟨RX6, "pairingScore", "(III)I"⟩
abbrev cX6_partnerOf : ByteArray := prog_1_method_73_code
def yX6_partnerOf : MethodName := ⟨RX6, "partnerOf", "(I)I"⟩
def RX7 : String := "AddressedToYouModel"
def TX7 : u_T := fun k => match k with
  | 0 => ("AddressedToYouModel", "n", "I", false)
  | 1 => ("AddressedToYouModel", "current", "[I", true)
  | 2 => ("AddressedToYouModel", "ways", "[I", true)
  | 3 => ("AddressedToYouModel", "answered", "I", false)
  | 4 => ("AddressedToYouModel", "bottles", "I", false)
  | 5 => ("AddressedToYouModel", "kind", "[I", true)
  | 6 => ("AddressedToYouModel", "own", "[I", true)
  | 7 => ("AddressedToYouModel", "cell", "[I", true)
  | 8 => ("AddressedToYouModel", "whose", "[I", true)
  | 9 => ("AddressedToYouModel", "how", "[I", true)
  | 10 => ("AddressedToYouModel", "walkers", "I", false)
  | 11 => ("AddressedToYouModel", "goer", "[I", true)
  | 12 => ("AddressedToYouModel", "seed", "I", false)
  | 13 => ("AddressedToYouModel", "taped", "I", false)
  | 14 => ("AddressedToYouModel", "tape", "[I", true)
  | 15 => ("AddressedToYouModel", "from", "I", false)
  | 16 => ("AddressedToYouModel", "to", "I", false)
  | 17 => ("AddressedToYouModel", "token", "I", false)
  | 18 => ("AddressedToYouModel", "value", "I", false)
  | 19 => ("AddressedToYouModel", "holding", "[I", true)
  | 20 => ("AddressedToYouModel", "rowLength", "[I", true)
  | 21 => ("AddressedToYouModel", "rowOf", "[J", true)
  | 22 => ("AddressedToYouModel", "refusals", "[I", true)
  | 23 => ("AddressedToYouModel", "imaged", "Z", false)
  | 24 => ("AddressedToYouModel", "old", "[I", true)
  | 25 => ("AddressedToYouModel", "before", "[I", true)
  | 26 => ("AddressedToYouModel", "was", "[I", true)
  | 27 => ("AddressedToYouModel", "meeting", "[I", true)
  | 28 => ("AddressedToYouModel", "tried", "[I", true)
  | 29 => ("AddressedToYouModel", "best", "[I", true)
  | 30 => ("AddressedToYouModel", "most", "I", false)
  | 31 => ("AddressedToYouModel", "fewest", "I", false)
  | _ => ("AddressedToYouModel", "came", "[I", true)
def tyX7 : Nat → FieldType := fun k => match k with
  | 0 => .int
  | 1 => .array .int
  | 2 => .array .int
  | 3 => .int
  | 4 => .int
  | 5 => .array .int
  | 6 => .array .int
  | 7 => .array .int
  | 8 => .array .int
  | 9 => .array .int
  | 10 => .int
  | 11 => .array .int
  | 12 => .int
  | 13 => .int
  | 14 => .array .int
  | 15 => .int
  | 16 => .int
  | 17 => .int
  | 18 => .int
  | 19 => .array .int
  | 20 => .array .int
  | 21 => .array .long
  | 22 => .array .int
  | 23 => .boolean
  | 24 => .array .int
  | 25 => .array .int
  | 26 => .array .int
  | 27 => .array .int
  | 28 => .array .int
  | 29 => .array .int
  | 30 => .int
  | 31 => .int
  | _ => .array .int
abbrev wsX70 : List Cond := u_ws RX7 TX7 33
theorem nmX7 : ∀ a, a < 33 → ∀ b, b < 33 → a ≠ b → (TX7 a).2.1 ≠ (TX7 b).2.1 := by decide +kernel
theorem tyX7_ok : ∀ k, k < 33 → parseFieldDescriptor (TX7 k).2.2.1 = some (tyX7 k) := by decide +kernel
abbrev cX7_init : ByteArray := prog_9_method_1_code
def yX7_init : MethodName := ⟨RX7, "<init>", "()V"⟩
abbrev cX7_no : ByteArray := prog_9_method_2_code
def yX7_no : MethodName := ⟨RX7, "no", "(I)I"⟩
abbrev cX7_within : ByteArray := prog_9_method_3_code
def yX7_within : MethodName := ⟨RX7, "within", "(III)Z"⟩
abbrev cX7_isCell : ByteArray := prog_9_method_4_code
def yX7_isCell : MethodName := ⟨RX7, "isCell", "(I)Z"⟩
abbrev cX7_isBottle : ByteArray := prog_9_method_5_code
def yX7_isBottle : MethodName := ⟨RX7, "isBottle", "(I)Z"⟩
abbrev cX7_isWalker : ByteArray := prog_9_method_6_code
def yX7_isWalker : MethodName := ⟨RX7, "isWalker", "(I)Z"⟩
abbrev cX7_isSuch : ByteArray := prog_9_method_7_code
def yX7_isSuch : MethodName := ⟨RX7, "isSuch", "(II)Z"⟩
abbrev cX7_isTime : ByteArray := prog_9_method_8_code
def yX7_isTime : MethodName := ⟨RX7, "isTime", "(I)Z"⟩
abbrev cX7_isShelf : ByteArray := prog_9_method_9_code
def yX7_isShelf : MethodName := ⟨RX7, "isShelf", "(I)Z"⟩
abbrev cX7_isRow : ByteArray := prog_9_method_10_code
def yX7_isRow : MethodName := ⟨RX7, "isRow", "(I)Z"⟩
abbrev cX7_row : ByteArray := prog_9_method_11_code
def yX7_row : MethodName := ⟨RX7, "row", "(III)I"⟩
abbrev cX7_noRow : ByteArray := prog_9_method_12_code
def yX7_noRow : MethodName := ⟨RX7, "noRow", "(I)I"⟩
abbrev cX7_kept : ByteArray := prog_9_method_13_code
def yX7_kept : MethodName := ⟨RX7, "kept", "(IJ)J"⟩
abbrev cX7_set : ByteArray := prog_9_method_14_code
def yX7_set : MethodName := ⟨RX7, "set", "(IIJ)I"⟩
abbrev cX7_copy : ByteArray := prog_9_method_15_code
def yX7_copy : MethodName := ⟨RX7, "copy", "(IIIII)I"⟩
abbrev cX7_element : ByteArray := prog_9_method_16_code
def yX7_element : MethodName := ⟨RX7, "element", "(II)J"⟩
abbrev cX7_holds : ByteArray := prog_9_method_17_code
def yX7_holds : MethodName := ⟨RX7, "holds", "(I)I"⟩
abbrev cX7_show : ByteArray := prog_9_method_18_code
def yX7_show : MethodName := ⟨RX7, "show", "(II)I"⟩
abbrev cX7_isUnder : ByteArray := prog_9_method_19_code
def yX7_isUnder : MethodName := ⟨RX7, "isUnder", "(II)Z"⟩
abbrev cX7_says : ByteArray := prog_9_method_20_code
def yX7_says : MethodName := ⟨RX7, "says", "(II)I"⟩
abbrev cX7_paves : ByteArray := prog_9_method_21_code
def yX7_paves : MethodName := ⟨RX7, "paves", "(I)I"⟩
abbrev cX7_newWalker : ByteArray := prog_9_method_22_code
def yX7_newWalker : MethodName := ⟨RX7, "newWalker", "(III)I"⟩
abbrev cX7_walker : ByteArray := prog_9_method_23_code
def yX7_walker : MethodName := ⟨RX7, "walker", "(III)I"⟩
abbrev cX7_sends : ByteArray := prog_9_method_24_code
def yX7_sends : MethodName := ⟨RX7, "sends", "(III)I"⟩
abbrev cX7_current : ByteArray := prog_9_method_25_code
def yX7_current : MethodName := ⟨RX7, "current", "(II)I"⟩
abbrev cX7_tell : ByteArray := prog_9_method_26_code
def yX7_tell : MethodName := ⟨RX7, "tell", "(II)I"⟩
abbrev cX7_becomes : ByteArray := prog_9_method_27_code
def yX7_becomes : MethodName := ⟨RX7, "becomes", "(IIIII)V"⟩
abbrev cX7_thrown : ByteArray := prog_9_method_28_code
def yX7_thrown : MethodName := ⟨RX7, "thrown", "(IIII)I"⟩
abbrev cX7_feed : ByteArray := prog_9_method_29_code
def yX7_feed : MethodName := ⟨RX7, "feed", "(I)I"⟩
abbrev cX7_wipe : ByteArray := prog_9_method_30_code
def yX7_wipe : MethodName := ⟨RX7, "wipe", "()I"⟩
abbrev cX7_isLetter : ByteArray := prog_9_method_31_code
def yX7_isLetter : MethodName := ⟨RX7, "isLetter", "(I)Z"⟩
abbrev cX7_isDigit : ByteArray := prog_9_method_32_code
def yX7_isDigit : MethodName := ⟨RX7, "isDigit", "(I)Z"⟩
abbrev cX7_next : ByteArray := prog_9_method_33_code
def yX7_next : MethodName := ⟨RX7, "next", "()V"⟩
abbrev cX7_isWord : ByteArray := prog_9_method_34_code
def yX7_isWord : MethodName := ⟨RX7, "isWord", "(Ljava/lang/String;)Z"⟩
abbrev cX7_number : ByteArray := prog_9_method_35_code
def yX7_number : MethodName := ⟨RX7, "number", "(II)I"⟩
abbrev cX7_cellTold : ByteArray := prog_9_method_36_code
def yX7_cellTold : MethodName := ⟨RX7, "cellTold", "()I"⟩
abbrev cX7_comesOne : ByteArray := prog_9_method_37_code
def yX7_comesOne : MethodName := ⟨RX7, "comesOne", "()Z"⟩
abbrev cX7_floats : ByteArray := prog_9_method_38_code
def yX7_floats : MethodName := ⟨RX7, "floats", "()Z"⟩
abbrev cX7_statement : ByteArray := prog_9_method_39_code
def yX7_statement : MethodName := ⟨RX7, "statement", "()Z"⟩
abbrev cX7_coast : ByteArray := prog_9_method_40_code
def yX7_coast : MethodName := ⟨RX7, "coast", "()I"⟩
abbrev cX7_tough : ByteArray := prog_9_method_41_code
def yX7_tough : MethodName := ⟨RX7, "tough", "(I)I"⟩
abbrev cX7_bottleOf : ByteArray := prog_9_method_42_code
def yX7_bottleOf : MethodName := ⟨RX7, "bottleOf", "(II)I"⟩
abbrev cX7_forHim : ByteArray := prog_9_method_43_code
def yX7_forHim : MethodName := ⟨RX7, "forHim", "(I)I"⟩
abbrev cX7_walkerOf : ByteArray := prog_9_method_44_code
def yX7_walkerOf : MethodName := ⟨RX7, "walkerOf", "(II)I"⟩
abbrev cX7_currentAt : ByteArray := prog_9_method_45_code
def yX7_currentAt : MethodName := ⟨RX7, "currentAt", "(I)I"⟩
abbrev cX7_drift : ByteArray := prog_9_method_46_code
def yX7_drift : MethodName := ⟨RX7, "drift", "(I)I"⟩
abbrev cX7_drifts : ByteArray := prog_9_method_47_code
def yX7_drifts : MethodName := ⟨RX7, "drifts", "(I)V"⟩
abbrev cX7_steps : ByteArray := prog_9_method_48_code
def yX7_steps : MethodName := ⟨RX7, "steps", "(I)V"⟩
abbrev cX7_passes : ByteArray := prog_9_method_49_code
def yX7_passes : MethodName := ⟨RX7, "passes", "(I)I"⟩
abbrev cX7_goesOn : ByteArray := prog_9_method_50_code
def yX7_goesOn : MethodName := ⟨RX7, "goesOn", "(I)I"⟩
abbrev cX7_ahead : ByteArray := prog_9_method_51_code
def yX7_ahead : MethodName := ⟨RX7, "ahead", "(III)I"⟩
abbrev cX7_walks : ByteArray := prog_9_method_52_code
def yX7_walks : MethodName := ⟨RX7, "walks", "(II)I"⟩
abbrev cX7_found : ByteArray := prog_9_method_53_code
def yX7_found : MethodName := ⟨RX7, "found", "(I)I"⟩
abbrev cX7_whenSo : ByteArray := prog_9_method_54_code
def yX7_whenSo : MethodName := ⟨RX7, "whenSo", "(III)I"⟩
abbrev cX7_when : ByteArray := prog_9_method_55_code
def yX7_when : MethodName := ⟨RX7, "when", "(I)I"⟩
abbrev cX7_breaks : ByteArray := prog_9_method_56_code
def yX7_breaks : MethodName := ⟨RX7, "breaks", "(I)I"⟩
abbrev cX7_meet : ByteArray := prog_9_method_57_code
def yX7_meet : MethodName := ⟨RX7, "meet", "(II)I"⟩
abbrev cX7_meets : ByteArray := prog_9_method_58_code
def yX7_meets : MethodName := ⟨RX7, "meets", "(II)I"⟩
abbrev cX7_finder : ByteArray := prog_9_method_59_code
def yX7_finder : MethodName := ⟨RX7, "finder", "(I)I"⟩
abbrev cX7_two : ByteArray := prog_9_method_60_code
def yX7_two : MethodName := ⟨RX7, "two", "(II)I"⟩
abbrev cX7_whenThrown : ByteArray := prog_9_method_61_code
def yX7_whenThrown : MethodName := ⟨RX7, "whenThrown", "(IIII)I"⟩
abbrev cX7_aim : ByteArray := prog_9_method_62_code
def yX7_aim : MethodName := ⟨RX7, "aim", "(IIII)I"⟩
abbrev cX7_foundFor : ByteArray := prog_9_method_63_code
def yX7_foundFor : MethodName := ⟨RX7, "foundFor", "(II)I"⟩
abbrev cX7_walk : ByteArray := prog_9_method_64_code
def yX7_walk : MethodName := ⟨RX7, "walk", "(III)I"⟩
abbrev cX7_toldAt : ByteArray := prog_9_method_65_code
def yX7_toldAt : MethodName := ⟨RX7, "toldAt", "(II)J"⟩
abbrev cX7_noTold : ByteArray := prog_9_method_66_code
def yX7_noTold : MethodName := ⟨RX7, "noTold", "(II)I"⟩
abbrev cX7_goesSo : ByteArray := prog_9_method_67_code
def yX7_goesSo : MethodName := ⟨RX7, "goesSo", "(III)Z"⟩
abbrev cX7_fits : ByteArray := prog_9_method_68_code
def yX7_fits : MethodName := ⟨RX7, "fits", "(IIII)I"⟩
abbrev cX7_from : ByteArray := prog_9_method_69_code
def yX7_from : MethodName := ⟨RX7, "from", "(III)I"⟩
abbrev cX7_tries : ByteArray := prog_9_method_70_code
def yX7_tries : MethodName := ⟨RX7, "tries", "(IIIII)V"⟩
abbrev cX7_pairs : ByteArray := prog_9_method_71_code
def yX7_pairs : MethodName := ⟨RX7, "pairs", "(II)I"⟩
abbrev cX7_mended : ByteArray := prog_9_method_72_code
def yX7_mended : MethodName := ⟨RX7, "mended", "(II)I"⟩
abbrev cX7_odds : ByteArray := prog_9_method_73_code
def yX7_odds : MethodName := ⟨RX7, "odds", "(III)I"⟩
abbrev cX7_windFor : ByteArray := prog_9_method_74_code
def yX7_windFor : MethodName := ⟨RX7, "windFor", "(I)I"⟩
abbrev cX7_bestWind : ByteArray := prog_9_method_75_code
def yX7_bestWind : MethodName := ⟨RX7, "bestWind", "(II)I"⟩
abbrev cX7_areSo : ByteArray := prog_9_method_76_code
def yX7_areSo : MethodName := ⟨RX7, "areSo", "(I)I"⟩
abbrev cX7_afloatThen : ByteArray := prog_9_method_77_code
def yX7_afloatThen : MethodName := ⟨RX7, "afloatThen", "(I)I"⟩
abbrev cX7_who : ByteArray := prog_9_method_78_code
def yX7_who : MethodName := ⟨RX7, "who", "(I)I"⟩
abbrev cX7_strays : ByteArray := prog_9_method_79_code
def yX7_strays : MethodName := ⟨RX7, "strays", "()I"⟩
abbrev cX7_there : ByteArray := prog_9_method_80_code
def yX7_there : MethodName := ⟨RX7, "there", "(II)I"⟩
abbrev cX7_settles : ByteArray := prog_9_method_81_code
def yX7_settles : MethodName := ⟨RX7, "settles", "(I)I"⟩
abbrev cX7_cellsOf : ByteArray := prog_9_method_82_code
def yX7_cellsOf : MethodName := ⟨RX7, "cellsOf", "(I)I"⟩
abbrev cX7_reach : ByteArray := prog_9_method_83_code
def yX7_reach : MethodName := ⟨RX7, "reach", "(II)I"⟩
abbrev cX7_busiest : ByteArray := prog_9_method_84_code
def yX7_busiest : MethodName := ⟨RX7, "busiest", "(I)I"⟩
abbrev cX7_round : ByteArray := prog_9_method_85_code
def yX7_round : MethodName := ⟨RX7, "round", "(I)I"⟩
abbrev cX7_join : ByteArray := prog_9_method_86_code
def yX7_join : MethodName := ⟨RX7, "join", "(II)I"⟩
abbrev cX7_first : ByteArray := prog_9_method_87_code
def yX7_first : MethodName := ⟨RX7, "first", "(I)I"⟩
abbrev cX7_next_ : ByteArray := prog_9_method_88_code
def yX7_next_ : MethodName := ⟨RX7, "next", "(III)I"⟩
abbrev cX7_stays : ByteArray := prog_9_method_89_code
def yX7_stays : MethodName := ⟨RX7, "stays", "(II)I"⟩
abbrev cX7_ofKind : ByteArray := prog_9_method_90_code
def yX7_ofKind : MethodName := ⟨RX7, "ofKind", "(I)I"⟩
abbrev cX7_judge : ByteArray := prog_9_method_91_code
def yX7_judge : MethodName := ⟨RX7, "judge", "(III)I"⟩
abbrev cX7_days : ByteArray := prog_9_method_92_code
def yX7_days : MethodName := ⟨RX7, "days", "(I)I"⟩
abbrev cX7_draw : ByteArray := prog_9_method_93_code
def yX7_draw : MethodName := ⟨RX7, "draw", "(I)I"⟩
abbrev cX7_drawn : ByteArray := prog_9_method_94_code
def yX7_drawn : MethodName := ⟨RX7, "drawn", "(I)I"⟩
abbrev cX7_seed : ByteArray := prog_9_method_95_code
def yX7_seed : MethodName := ⟨RX7, "seed", "(I)I"⟩
abbrev cX7_keep : ByteArray := prog_9_method_96_code
def yX7_keep : MethodName := ⟨RX7, "keep", "([I)V"⟩
abbrev cX7_again : ByteArray := prog_9_method_97_code
def yX7_again : MethodName := ⟨RX7, "again", "([I)V"⟩
abbrev cX7_image : ByteArray := prog_9_method_98_code
def yX7_image : MethodName := ⟨RX7, "image", "()I"⟩
abbrev cX7_back : ByteArray := prog_9_method_99_code
def yX7_back : MethodName := ⟨RX7, "back", "()I"⟩
abbrev cX7_status : ByteArray := prog_9_method_100_code
def yX7_status : MethodName := ⟨RX7, "status", "(I)I"⟩
def RJ6 : String := "java/lang/Integer"
abbrev cJ6_bitCount_0f7a4 : ByteArray := prog_10_method_49_code
def yJ6_bitCount_0f7a4 : MethodName := ⟨RJ6, "bitCount", "(I)I"⟩
def RJ9 : String := "java/lang/Math"
abbrev cJ9_abs_0f7a4 : ByteArray := prog_11_method_59_code
def yJ9_abs_0f7a4 : MethodName := ⟨RJ9, "abs", "(I)I"⟩
abbrev cJ9_max_7cf53 : ByteArray := prog_11_method_65_code
def yJ9_max_7cf53 : MethodName := ⟨RJ9, "max", "(II)I"⟩
abbrev cJ9_min_7cf53 : ByteArray := prog_11_method_69_code
def yJ9_min_7cf53 : MethodName := ⟨RJ9, "min", "(II)I"⟩
def RJ0 : String := "java/lang/String"
abbrev cJ0_length_8abf5 : ByteArray := prog_12_method_54_code
def yJ0_length_8abf5 : MethodName := ⟨RJ0, "length", "()I"⟩
abbrev cJ0_charAt_5068e : ByteArray := prog_12_method_56_code
def yJ0_charAt_5068e : MethodName := ⟨RJ0, "charAt", "(I)C"⟩
abbrev cJ0_coder_7d493 : ByteArray := prog_12_method_152_code
def yJ0_coder_7d493 : MethodName := ⟨RJ0, "coder", "()B"⟩
abbrev cJ0_isLatin1_aae02 : ByteArray := prog_12_method_154_code
def yJ0_isLatin1_aae02 : MethodName := ⟨RJ0, "isLatin1", "()Z"⟩
abbrev cJ0_checkIndex_df160 : ByteArray := prog_12_method_155_code
def yJ0_checkIndex_df160 : MethodName := ⟨RJ0, "checkIndex", "(II)V"⟩
def RJ1 : String := "java/lang/StringLatin1"
abbrev cJ1_charAt_3b067 : ByteArray := prog_13_method_2_code
def yJ1_charAt_3b067 : MethodName := ⟨RJ1, "charAt", "([BI)C"⟩
def RJ2 : String := "java/lang/StringUTF16"
abbrev cJ2_getChar_3b067 : ByteArray := prog_14_method_5_code
def yJ2_getChar_3b067 : MethodName := ⟨RJ2, "getChar", "([BI)C"⟩
abbrev cJ2_length_9d52b : ByteArray := prog_14_method_6_code
def yJ2_length_9d52b : MethodName := ⟨RJ2, "length", "([B)I"⟩
abbrev cJ2_charAt_3b067 : ByteArray := prog_14_method_83_code
def yJ2_charAt_3b067 : MethodName := ⟨RJ2, "charAt", "([BI)C"⟩
abbrev cJ2_checkIndex_2214a : ByteArray := prog_14_method_91_code
def yJ2_checkIndex_2214a : MethodName := ⟨RJ2, "checkIndex", "(I[B)V"⟩
def RJ10 : String := "java/lang/System"
def RJ3 : String := "jdk/internal/util/Preconditions"
abbrev cJ3_checkIndex_8e157 : ByteArray := prog_16_method_11_code
def yJ3_checkIndex_8e157 : MethodName := ⟨RJ3, "checkIndex", "(IILjava/util/function/BiFunction;)I"⟩
def RL : String := "AddressedToYouLaw"
abbrev cL_law : ByteArray := code
def yL_law : MethodName := ⟨RL, "law", "([I)Z"⟩
abbrev vwCl : List vw_C := [(RX0, TX0, 5), (RX1, TX1, 3), (RX2, TX2, 7), (RX3, TX3, 2), (RX4, TX4, 3), (RX5, TX5, 12), (RX6, TX6, 15), (RX7, TX7, 33)]
