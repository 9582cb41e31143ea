/-! THE LAW'S LOOP, printed from its table -/
noncomputable def fL_law_j1991 (q : Nat) (a3 : Int32) (m : MM) : Option (((Int32) ⊕ ((Unit) ⊕ (Bool))) × MM) :=
  bif inB (a3 + 1) q then
    (fX6_status 0 (m.1 33 0 (a3 + 1).toNatClampNeg) m).bind fun o1 =>
    bif inB (a3 + 1) q then
      (fX7_status 0 (o1.2.1 33 0 (a3 + 1).toNatClampNeg) o1.2).bind fun o2 =>
      if o1.1 = o2.1 then
        some (Sum.inl (a3 + 6), o2.2)
      else
        some (Sum.inr (Sum.inr false), o2.2)
    else none
  else none
noncomputable def fL_law_j1978 (q : Nat) (a3 : Int32) (m : MM) : Option (((Int32) ⊕ ((Unit) ⊕ (Bool))) × MM) :=
  (fX6_back 0 m).bind fun o3 =>
  (fX7_back 0 o3.2).bind fun o4 =>
  if o3.1 = o4.1 then
    some (Sum.inl (a3 + 6), o4.2)
  else
    some (Sum.inr (Sum.inr false), o4.2)
noncomputable def fL_law_j1965 (q : Nat) (a3 : Int32) (m : MM) : Option (((Int32) ⊕ ((Unit) ⊕ (Bool))) × MM) :=
  (fX6_image 0 m).bind fun o5 =>
  (fX7_image 0 o5.2).bind fun o6 =>
  if o5.1 = o6.1 then
    some (Sum.inl (a3 + 6), o6.2)
  else
    some (Sum.inr (Sum.inr false), o6.2)
noncomputable def fL_law_j1942 (q : Nat) (a3 : Int32) (m : MM) : Option (((Int32) ⊕ ((Unit) ⊕ (Bool))) × MM) :=
  bif inB (a3 + 1) q then
    (fX6_seed 0 (m.1 33 0 (a3 + 1).toNatClampNeg) m).bind fun o7 =>
    bif inB (a3 + 1) q then
      (fX7_seed 0 (o7.2.1 33 0 (a3 + 1).toNatClampNeg) o7.2).bind fun o8 =>
      if o7.1 = o8.1 then
        some (Sum.inl (a3 + 6), o8.2)
      else
        some (Sum.inr (Sum.inr false), o8.2)
    else none
  else none
noncomputable def fL_law_j1919 (q : Nat) (a3 : Int32) (m : MM) : Option (((Int32) ⊕ ((Unit) ⊕ (Bool))) × MM) :=
  bif inB (a3 + 1) q then
    (fX6_drawn 0 (m.1 33 0 (a3 + 1).toNatClampNeg) m).bind fun o9 =>
    bif inB (a3 + 1) q then
      (fX7_drawn 0 (o9.2.1 33 0 (a3 + 1).toNatClampNeg) o9.2).bind fun o10 =>
      if o9.1 = o10.1 then
        some (Sum.inl (a3 + 6), o10.2)
      else
        some (Sum.inr (Sum.inr false), o10.2)
    else none
  else none
noncomputable def fL_law_j1896 (q : Nat) (a3 : Int32) (m : MM) : Option (((Int32) ⊕ ((Unit) ⊕ (Bool))) × MM) :=
  bif inB (a3 + 1) q then
    (fX6_days 0 (m.1 33 0 (a3 + 1).toNatClampNeg) m).bind fun o11 =>
    bif inB (a3 + 1) q then
      (fX7_days 0 (o11.2.1 33 0 (a3 + 1).toNatClampNeg) o11.2).bind fun o12 =>
      if o11.1 = o12.1 then
        some (Sum.inl (a3 + 6), o12.2)
      else
        some (Sum.inr (Sum.inr false), o12.2)
    else none
  else none
noncomputable def fL_law_j1843 (q : Nat) (a3 : Int32) (m : MM) : Option (((Int32) ⊕ ((Unit) ⊕ (Bool))) × MM) :=
  bif inB (a3 + 1) q then
    bif inB (a3 + 2) q then
      bif inB (a3 + 3) q then
        bif inB (a3 + 4) q then
          (fX6_thrown 0 (m.1 33 0 (a3 + 1).toNatClampNeg) (m.1 33 0 (a3 + 2).toNatClampNeg) (m.1 33 0 (a3 + 3).toNatClampNeg) (m.1 33 0 (a3 + 4).toNatClampNeg) m).bind fun o13 =>
          bif inB (a3 + 1) q then
            bif inB (a3 + 2) q then
              bif inB (a3 + 3) q then
                bif inB (a3 + 4) q then
                  (fX7_thrown 0 (o13.2.1 33 0 (a3 + 1).toNatClampNeg) (o13.2.1 33 0 (a3 + 2).toNatClampNeg) (o13.2.1 33 0 (a3 + 3).toNatClampNeg) (o13.2.1 33 0 (a3 + 4).toNatClampNeg) o13.2).bind fun o14 =>
                  if o13.1 = o14.1 then
                    some (Sum.inl (a3 + 6), o14.2)
                  else
                    some (Sum.inr (Sum.inr false), o14.2)
                else none
              else none
            else none
          else none
        else none
      else none
    else none
  else none
noncomputable def fL_law_j1800 (q : Nat) (a3 : Int32) (m : MM) : Option (((Int32) ⊕ ((Unit) ⊕ (Bool))) × MM) :=
  bif inB (a3 + 1) q then
    bif inB (a3 + 2) q then
      bif inB (a3 + 3) q then
        (fX6_judge 0 (m.1 33 0 (a3 + 1).toNatClampNeg) (m.1 33 0 (a3 + 2).toNatClampNeg) (m.1 33 0 (a3 + 3).toNatClampNeg) m).bind fun o15 =>
        bif inB (a3 + 1) q then
          bif inB (a3 + 2) q then
            bif inB (a3 + 3) q then
              (fX7_judge 0 (o15.2.1 33 0 (a3 + 1).toNatClampNeg) (o15.2.1 33 0 (a3 + 2).toNatClampNeg) (o15.2.1 33 0 (a3 + 3).toNatClampNeg) o15.2).bind fun o16 =>
              if o15.1 = o16.1 then
                some (Sum.inl (a3 + 6), o16.2)
              else
                some (Sum.inr (Sum.inr false), o16.2)
            else none
          else none
        else none
      else none
    else none
  else none
noncomputable def fL_law_j1777 (q : Nat) (a3 : Int32) (m : MM) : Option (((Int32) ⊕ ((Unit) ⊕ (Bool))) × MM) :=
  bif inB (a3 + 1) q then
    (fX6_ofKind 0 (m.1 33 0 (a3 + 1).toNatClampNeg) m).bind fun o17 =>
    bif inB (a3 + 1) q then
      (fX7_ofKind 0 (o17.2.1 33 0 (a3 + 1).toNatClampNeg) o17.2).bind fun o18 =>
      if o17.1 = o18.1 then
        some (Sum.inl (a3 + 6), o18.2)
      else
        some (Sum.inr (Sum.inr false), o18.2)
    else none
  else none
noncomputable def fL_law_j1764 (q : Nat) (a3 : Int32) (m : MM) : Option (((Int32) ⊕ ((Unit) ⊕ (Bool))) × MM) :=
  (fX6_strays 0 m).bind fun o19 =>
  (fX7_strays 0 o19.2).bind fun o20 =>
  if o19.1 = o20.1 then
    some (Sum.inl (a3 + 6), o20.2)
  else
    some (Sum.inr (Sum.inr false), o20.2)
noncomputable def fL_law_j1731 (q : Nat) (a3 : Int32) (m : MM) : Option (((Int32) ⊕ ((Unit) ⊕ (Bool))) × MM) :=
  bif inB (a3 + 1) q then
    bif inB (a3 + 2) q then
      (fX6_stays 0 (m.1 33 0 (a3 + 1).toNatClampNeg) (m.1 33 0 (a3 + 2).toNatClampNeg) m).bind fun o21 =>
      bif inB (a3 + 1) q then
        bif inB (a3 + 2) q then
          (fX7_stays 0 (o21.2.1 33 0 (a3 + 1).toNatClampNeg) (o21.2.1 33 0 (a3 + 2).toNatClampNeg) o21.2).bind fun o22 =>
          if o21.1 = o22.1 then
            some (Sum.inl (a3 + 6), o22.2)
          else
            some (Sum.inr (Sum.inr false), o22.2)
        else none
      else none
    else none
  else none
noncomputable def fL_law_j1688 (q : Nat) (a3 : Int32) (m : MM) : Option (((Int32) ⊕ ((Unit) ⊕ (Bool))) × MM) :=
  bif inB (a3 + 1) q then
    bif inB (a3 + 2) q then
      bif inB (a3 + 3) q then
        (fX6_next 0 (m.1 33 0 (a3 + 1).toNatClampNeg) (m.1 33 0 (a3 + 2).toNatClampNeg) (m.1 33 0 (a3 + 3).toNatClampNeg) m).bind fun o23 =>
        bif inB (a3 + 1) q then
          bif inB (a3 + 2) q then
            bif inB (a3 + 3) q then
              (fX7_next_ 0 (o23.2.1 33 0 (a3 + 1).toNatClampNeg) (o23.2.1 33 0 (a3 + 2).toNatClampNeg) (o23.2.1 33 0 (a3 + 3).toNatClampNeg) o23.2).bind fun o24 =>
              if o23.1 = o24.1 then
                some (Sum.inl (a3 + 6), o24.2)
              else
                some (Sum.inr (Sum.inr false), o24.2)
            else none
          else none
        else none
      else none
    else none
  else none
noncomputable def fL_law_j1665 (q : Nat) (a3 : Int32) (m : MM) : Option (((Int32) ⊕ ((Unit) ⊕ (Bool))) × MM) :=
  bif inB (a3 + 1) q then
    (fX6_first 0 (m.1 33 0 (a3 + 1).toNatClampNeg) m).bind fun o25 =>
    bif inB (a3 + 1) q then
      (fX7_first 0 (o25.2.1 33 0 (a3 + 1).toNatClampNeg) o25.2).bind fun o26 =>
      if o25.1 = o26.1 then
        some (Sum.inl (a3 + 6), o26.2)
      else
        some (Sum.inr (Sum.inr false), o26.2)
    else none
  else none
noncomputable def fL_law_j1642 (q : Nat) (a3 : Int32) (m : MM) : Option (((Int32) ⊕ ((Unit) ⊕ (Bool))) × MM) :=
  bif inB (a3 + 1) q then
    (fX6_breaks 0 (m.1 33 0 (a3 + 1).toNatClampNeg) m).bind fun o27 =>
    bif inB (a3 + 1) q then
      (fX7_breaks 0 (o27.2.1 33 0 (a3 + 1).toNatClampNeg) o27.2).bind fun o28 =>
      if o27.1 = o28.1 then
        some (Sum.inl (a3 + 6), o28.2)
      else
        some (Sum.inr (Sum.inr false), o28.2)
    else none
  else none
noncomputable def fL_law_j1609 (q : Nat) (a3 : Int32) (m : MM) : Option (((Int32) ⊕ ((Unit) ⊕ (Bool))) × MM) :=
  bif inB (a3 + 1) q then
    bif inB (a3 + 2) q then
      (fX6_join 0 (m.1 33 0 (a3 + 1).toNatClampNeg) (m.1 33 0 (a3 + 2).toNatClampNeg) m).bind fun o29 =>
      bif inB (a3 + 1) q then
        bif inB (a3 + 2) q then
          (fX7_join 0 (o29.2.1 33 0 (a3 + 1).toNatClampNeg) (o29.2.1 33 0 (a3 + 2).toNatClampNeg) o29.2).bind fun o30 =>
          if o29.1 = o30.1 then
            some (Sum.inl (a3 + 6), o30.2)
          else
            some (Sum.inr (Sum.inr false), o30.2)
        else none
      else none
    else none
  else none
noncomputable def fL_law_j1586 (q : Nat) (a3 : Int32) (m : MM) : Option (((Int32) ⊕ ((Unit) ⊕ (Bool))) × MM) :=
  bif inB (a3 + 1) q then
    (fX6_round 0 (m.1 33 0 (a3 + 1).toNatClampNeg) m).bind fun o31 =>
    bif inB (a3 + 1) q then
      (fX7_round 0 (o31.2.1 33 0 (a3 + 1).toNatClampNeg) o31.2).bind fun o32 =>
      if o31.1 = o32.1 then
        some (Sum.inl (a3 + 6), o32.2)
      else
        some (Sum.inr (Sum.inr false), o32.2)
    else none
  else none
noncomputable def fL_law_j1563 (q : Nat) (a3 : Int32) (m : MM) : Option (((Int32) ⊕ ((Unit) ⊕ (Bool))) × MM) :=
  bif inB (a3 + 1) q then
    (fX6_busiest 0 (m.1 33 0 (a3 + 1).toNatClampNeg) m).bind fun o33 =>
    bif inB (a3 + 1) q then
      (fX7_busiest 0 (o33.2.1 33 0 (a3 + 1).toNatClampNeg) o33.2).bind fun o34 =>
      if o33.1 = o34.1 then
        some (Sum.inl (a3 + 6), o34.2)
      else
        some (Sum.inr (Sum.inr false), o34.2)
    else none
  else none
noncomputable def fL_law_j1530 (q : Nat) (a3 : Int32) (m : MM) : Option (((Int32) ⊕ ((Unit) ⊕ (Bool))) × MM) :=
  bif inB (a3 + 1) q then
    bif inB (a3 + 2) q then
      (fX6_reach 0 (m.1 33 0 (a3 + 1).toNatClampNeg) (m.1 33 0 (a3 + 2).toNatClampNeg) m).bind fun o35 =>
      bif inB (a3 + 1) q then
        bif inB (a3 + 2) q then
          (fX7_reach 0 (o35.2.1 33 0 (a3 + 1).toNatClampNeg) (o35.2.1 33 0 (a3 + 2).toNatClampNeg) o35.2).bind fun o36 =>
          if o35.1 = o36.1 then
            some (Sum.inl (a3 + 6), o36.2)
          else
            some (Sum.inr (Sum.inr false), o36.2)
        else none
      else none
    else none
  else none
noncomputable def fL_law_j1507 (q : Nat) (a3 : Int32) (m : MM) : Option (((Int32) ⊕ ((Unit) ⊕ (Bool))) × MM) :=
  bif inB (a3 + 1) q then
    (fX6_settles 0 (m.1 33 0 (a3 + 1).toNatClampNeg) m).bind fun o37 =>
    bif inB (a3 + 1) q then
      (fX7_settles 0 (o37.2.1 33 0 (a3 + 1).toNatClampNeg) o37.2).bind fun o38 =>
      if o37.1 = o38.1 then
        some (Sum.inl (a3 + 6), o38.2)
      else
        some (Sum.inr (Sum.inr false), o38.2)
    else none
  else none
noncomputable def fL_law_j1474 (q : Nat) (a3 : Int32) (m : MM) : Option (((Int32) ⊕ ((Unit) ⊕ (Bool))) × MM) :=
  bif inB (a3 + 1) q then
    bif inB (a3 + 2) q then
      (fX6_there 0 (m.1 33 0 (a3 + 1).toNatClampNeg) (m.1 33 0 (a3 + 2).toNatClampNeg) m).bind fun o39 =>
      bif inB (a3 + 1) q then
        bif inB (a3 + 2) q then
          (fX7_there 0 (o39.2.1 33 0 (a3 + 1).toNatClampNeg) (o39.2.1 33 0 (a3 + 2).toNatClampNeg) o39.2).bind fun o40 =>
          if o39.1 = o40.1 then
            some (Sum.inl (a3 + 6), o40.2)
          else
            some (Sum.inr (Sum.inr false), o40.2)
        else none
      else none
    else none
  else none
noncomputable def fL_law_j1451 (q : Nat) (a3 : Int32) (m : MM) : Option (((Int32) ⊕ ((Unit) ⊕ (Bool))) × MM) :=
  bif inB (a3 + 1) q then
    (fX6_who 0 (m.1 33 0 (a3 + 1).toNatClampNeg) m).bind fun o41 =>
    bif inB (a3 + 1) q then
      (fX7_who 0 (o41.2.1 33 0 (a3 + 1).toNatClampNeg) o41.2).bind fun o42 =>
      if o41.1 = o42.1 then
        some (Sum.inl (a3 + 6), o42.2)
      else
        some (Sum.inr (Sum.inr false), o42.2)
    else none
  else none
noncomputable def fL_law_j1418 (q : Nat) (a3 : Int32) (m : MM) : Option (((Int32) ⊕ ((Unit) ⊕ (Bool))) × MM) :=
  bif inB (a3 + 1) q then
    bif inB (a3 + 2) q then
      (fX6_bestWind 0 (m.1 33 0 (a3 + 1).toNatClampNeg) (m.1 33 0 (a3 + 2).toNatClampNeg) m).bind fun o43 =>
      bif inB (a3 + 1) q then
        bif inB (a3 + 2) q then
          (fX7_bestWind 0 (o43.2.1 33 0 (a3 + 1).toNatClampNeg) (o43.2.1 33 0 (a3 + 2).toNatClampNeg) o43.2).bind fun o44 =>
          if o43.1 = o44.1 then
            some (Sum.inl (a3 + 6), o44.2)
          else
            some (Sum.inr (Sum.inr false), o44.2)
        else none
      else none
    else none
  else none
noncomputable def fL_law_j1395 (q : Nat) (a3 : Int32) (m : MM) : Option (((Int32) ⊕ ((Unit) ⊕ (Bool))) × MM) :=
  bif inB (a3 + 1) q then
    (fX6_windFor 0 (m.1 33 0 (a3 + 1).toNatClampNeg) m).bind fun o45 =>
    bif inB (a3 + 1) q then
      (fX7_windFor 0 (o45.2.1 33 0 (a3 + 1).toNatClampNeg) o45.2).bind fun o46 =>
      if o45.1 = o46.1 then
        some (Sum.inl (a3 + 6), o46.2)
      else
        some (Sum.inr (Sum.inr false), o46.2)
    else none
  else none
noncomputable def fL_law_j1352 (q : Nat) (a3 : Int32) (m : MM) : Option (((Int32) ⊕ ((Unit) ⊕ (Bool))) × MM) :=
  bif inB (a3 + 1) q then
    bif inB (a3 + 2) q then
      bif inB (a3 + 3) q then
        (fX6_odds 0 (m.1 33 0 (a3 + 1).toNatClampNeg) (m.1 33 0 (a3 + 2).toNatClampNeg) (m.1 33 0 (a3 + 3).toNatClampNeg) m).bind fun o47 =>
        bif inB (a3 + 1) q then
          bif inB (a3 + 2) q then
            bif inB (a3 + 3) q then
              (fX7_odds 0 (o47.2.1 33 0 (a3 + 1).toNatClampNeg) (o47.2.1 33 0 (a3 + 2).toNatClampNeg) (o47.2.1 33 0 (a3 + 3).toNatClampNeg) o47.2).bind fun o48 =>
              if o47.1 = o48.1 then
                some (Sum.inl (a3 + 6), o48.2)
              else
                some (Sum.inr (Sum.inr false), o48.2)
            else none
          else none
        else none
      else none
    else none
  else none
noncomputable def fL_law_j1319 (q : Nat) (a3 : Int32) (m : MM) : Option (((Int32) ⊕ ((Unit) ⊕ (Bool))) × MM) :=
  bif inB (a3 + 1) q then
    bif inB (a3 + 2) q then
      (fX6_mended 0 (m.1 33 0 (a3 + 1).toNatClampNeg) (m.1 33 0 (a3 + 2).toNatClampNeg) m).bind fun o49 =>
      bif inB (a3 + 1) q then
        bif inB (a3 + 2) q then
          (fX7_mended 0 (o49.2.1 33 0 (a3 + 1).toNatClampNeg) (o49.2.1 33 0 (a3 + 2).toNatClampNeg) o49.2).bind fun o50 =>
          if o49.1 = o50.1 then
            some (Sum.inl (a3 + 6), o50.2)
          else
            some (Sum.inr (Sum.inr false), o50.2)
        else none
      else none
    else none
  else none
noncomputable def fL_law_j1286 (q : Nat) (a3 : Int32) (m : MM) : Option (((Int32) ⊕ ((Unit) ⊕ (Bool))) × MM) :=
  bif inB (a3 + 1) q then
    bif inB (a3 + 2) q then
      (fX6_pairs 0 (m.1 33 0 (a3 + 1).toNatClampNeg) (m.1 33 0 (a3 + 2).toNatClampNeg) m).bind fun o51 =>
      bif inB (a3 + 1) q then
        bif inB (a3 + 2) q then
          (fX7_pairs 0 (o51.2.1 33 0 (a3 + 1).toNatClampNeg) (o51.2.1 33 0 (a3 + 2).toNatClampNeg) o51.2).bind fun o52 =>
          if o51.1 = o52.1 then
            some (Sum.inl (a3 + 6), o52.2)
          else
            some (Sum.inr (Sum.inr false), o52.2)
        else none
      else none
    else none
  else none
noncomputable def fL_law_j1243 (q : Nat) (a3 : Int32) (m : MM) : Option (((Int32) ⊕ ((Unit) ⊕ (Bool))) × MM) :=
  bif inB (a3 + 1) q then
    bif inB (a3 + 2) q then
      bif inB (a3 + 3) q then
        (fX6_from 0 (m.1 33 0 (a3 + 1).toNatClampNeg) (m.1 33 0 (a3 + 2).toNatClampNeg) (m.1 33 0 (a3 + 3).toNatClampNeg) m).bind fun o53 =>
        bif inB (a3 + 1) q then
          bif inB (a3 + 2) q then
            bif inB (a3 + 3) q then
              (fX7_from 0 (o53.2.1 33 0 (a3 + 1).toNatClampNeg) (o53.2.1 33 0 (a3 + 2).toNatClampNeg) (o53.2.1 33 0 (a3 + 3).toNatClampNeg) o53.2).bind fun o54 =>
              if o53.1 = o54.1 then
                some (Sum.inl (a3 + 6), o54.2)
              else
                some (Sum.inr (Sum.inr false), o54.2)
            else none
          else none
        else none
      else none
    else none
  else none
noncomputable def fL_law_j1190 (q : Nat) (a3 : Int32) (m : MM) : Option (((Int32) ⊕ ((Unit) ⊕ (Bool))) × MM) :=
  bif inB (a3 + 1) q then
    bif inB (a3 + 2) q then
      bif inB (a3 + 3) q then
        bif inB (a3 + 4) q then
          (fX6_fits 0 (m.1 33 0 (a3 + 1).toNatClampNeg) (m.1 33 0 (a3 + 2).toNatClampNeg) (m.1 33 0 (a3 + 3).toNatClampNeg) (m.1 33 0 (a3 + 4).toNatClampNeg) m).bind fun o55 =>
          bif inB (a3 + 1) q then
            bif inB (a3 + 2) q then
              bif inB (a3 + 3) q then
                bif inB (a3 + 4) q then
                  (fX7_fits 0 (o55.2.1 33 0 (a3 + 1).toNatClampNeg) (o55.2.1 33 0 (a3 + 2).toNatClampNeg) (o55.2.1 33 0 (a3 + 3).toNatClampNeg) (o55.2.1 33 0 (a3 + 4).toNatClampNeg) o55.2).bind fun o56 =>
                  if o55.1 = o56.1 then
                    some (Sum.inl (a3 + 6), o56.2)
                  else
                    some (Sum.inr (Sum.inr false), o56.2)
                else none
              else none
            else none
          else none
        else none
      else none
    else none
  else none
noncomputable def fL_law_j1147 (q : Nat) (a3 : Int32) (m : MM) : Option (((Int32) ⊕ ((Unit) ⊕ (Bool))) × MM) :=
  bif inB (a3 + 1) q then
    bif inB (a3 + 2) q then
      bif inB (a3 + 3) q then
        (fX6_walk 0 (m.1 33 0 (a3 + 1).toNatClampNeg) (m.1 33 0 (a3 + 2).toNatClampNeg) (m.1 33 0 (a3 + 3).toNatClampNeg) m).bind fun o57 =>
        bif inB (a3 + 1) q then
          bif inB (a3 + 2) q then
            bif inB (a3 + 3) q then
              (fX7_walk 0 (o57.2.1 33 0 (a3 + 1).toNatClampNeg) (o57.2.1 33 0 (a3 + 2).toNatClampNeg) (o57.2.1 33 0 (a3 + 3).toNatClampNeg) o57.2).bind fun o58 =>
              if o57.1 = o58.1 then
                some (Sum.inl (a3 + 6), o58.2)
              else
                some (Sum.inr (Sum.inr false), o58.2)
            else none
          else none
        else none
      else none
    else none
  else none
noncomputable def fL_law_j1094 (q : Nat) (a3 : Int32) (m : MM) : Option (((Int32) ⊕ ((Unit) ⊕ (Bool))) × MM) :=
  bif inB (a3 + 1) q then
    bif inB (a3 + 2) q then
      bif inB (a3 + 3) q then
        bif inB (a3 + 4) q then
          (fX6_aim 0 (m.1 33 0 (a3 + 1).toNatClampNeg) (m.1 33 0 (a3 + 2).toNatClampNeg) (m.1 33 0 (a3 + 3).toNatClampNeg) (m.1 33 0 (a3 + 4).toNatClampNeg) m).bind fun o59 =>
          bif inB (a3 + 1) q then
            bif inB (a3 + 2) q then
              bif inB (a3 + 3) q then
                bif inB (a3 + 4) q then
                  (fX7_aim 0 (o59.2.1 33 0 (a3 + 1).toNatClampNeg) (o59.2.1 33 0 (a3 + 2).toNatClampNeg) (o59.2.1 33 0 (a3 + 3).toNatClampNeg) (o59.2.1 33 0 (a3 + 4).toNatClampNeg) o59.2).bind fun o60 =>
                  if o59.1 = o60.1 then
                    some (Sum.inl (a3 + 6), o60.2)
                  else
                    some (Sum.inr (Sum.inr false), o60.2)
                else none
              else none
            else none
          else none
        else none
      else none
    else none
  else none
noncomputable def fL_law_j1061 (q : Nat) (a3 : Int32) (m : MM) : Option (((Int32) ⊕ ((Unit) ⊕ (Bool))) × MM) :=
  bif inB (a3 + 1) q then
    bif inB (a3 + 2) q then
      (fX6_two 0 (m.1 33 0 (a3 + 1).toNatClampNeg) (m.1 33 0 (a3 + 2).toNatClampNeg) m).bind fun o61 =>
      bif inB (a3 + 1) q then
        bif inB (a3 + 2) q then
          (fX7_two 0 (o61.2.1 33 0 (a3 + 1).toNatClampNeg) (o61.2.1 33 0 (a3 + 2).toNatClampNeg) o61.2).bind fun o62 =>
          if o61.1 = o62.1 then
            some (Sum.inl (a3 + 6), o62.2)
          else
            some (Sum.inr (Sum.inr false), o62.2)
        else none
      else none
    else none
  else none
noncomputable def fL_law_j1038 (q : Nat) (a3 : Int32) (m : MM) : Option (((Int32) ⊕ ((Unit) ⊕ (Bool))) × MM) :=
  bif inB (a3 + 1) q then
    (fX6_finder 0 (m.1 33 0 (a3 + 1).toNatClampNeg) m).bind fun o63 =>
    bif inB (a3 + 1) q then
      (fX7_finder 0 (o63.2.1 33 0 (a3 + 1).toNatClampNeg) o63.2).bind fun o64 =>
      if o63.1 = o64.1 then
        some (Sum.inl (a3 + 6), o64.2)
      else
        some (Sum.inr (Sum.inr false), o64.2)
    else none
  else none
noncomputable def fL_law_j1005 (q : Nat) (a3 : Int32) (m : MM) : Option (((Int32) ⊕ ((Unit) ⊕ (Bool))) × MM) :=
  bif inB (a3 + 1) q then
    bif inB (a3 + 2) q then
      (fX6_meets 0 (m.1 33 0 (a3 + 1).toNatClampNeg) (m.1 33 0 (a3 + 2).toNatClampNeg) m).bind fun o65 =>
      bif inB (a3 + 1) q then
        bif inB (a3 + 2) q then
          (fX7_meets 0 (o65.2.1 33 0 (a3 + 1).toNatClampNeg) (o65.2.1 33 0 (a3 + 2).toNatClampNeg) o65.2).bind fun o66 =>
          if o65.1 = o66.1 then
            some (Sum.inl (a3 + 6), o66.2)
          else
            some (Sum.inr (Sum.inr false), o66.2)
        else none
      else none
    else none
  else none
noncomputable def fL_law_j982 (q : Nat) (a3 : Int32) (m : MM) : Option (((Int32) ⊕ ((Unit) ⊕ (Bool))) × MM) :=
  bif inB (a3 + 1) q then
    (fX6_when 0 (m.1 33 0 (a3 + 1).toNatClampNeg) m).bind fun o67 =>
    bif inB (a3 + 1) q then
      (fX7_when 0 (o67.2.1 33 0 (a3 + 1).toNatClampNeg) o67.2).bind fun o68 =>
      if o67.1 = o68.1 then
        some (Sum.inl (a3 + 6), o68.2)
      else
        some (Sum.inr (Sum.inr false), o68.2)
    else none
  else none
noncomputable def fL_law_j959 (q : Nat) (a3 : Int32) (m : MM) : Option (((Int32) ⊕ ((Unit) ⊕ (Bool))) × MM) :=
  bif inB (a3 + 1) q then
    (fX6_found 0 (m.1 33 0 (a3 + 1).toNatClampNeg) m).bind fun o69 =>
    bif inB (a3 + 1) q then
      (fX7_found 0 (o69.2.1 33 0 (a3 + 1).toNatClampNeg) o69.2).bind fun o70 =>
      if o69.1 = o70.1 then
        some (Sum.inl (a3 + 6), o70.2)
      else
        some (Sum.inr (Sum.inr false), o70.2)
    else none
  else none
noncomputable def fL_law_j926 (q : Nat) (a3 : Int32) (m : MM) : Option (((Int32) ⊕ ((Unit) ⊕ (Bool))) × MM) :=
  bif inB (a3 + 1) q then
    bif inB (a3 + 2) q then
      (fX6_walks 0 (m.1 33 0 (a3 + 1).toNatClampNeg) (m.1 33 0 (a3 + 2).toNatClampNeg) m).bind fun o71 =>
      bif inB (a3 + 1) q then
        bif inB (a3 + 2) q then
          (fX7_walks 0 (o71.2.1 33 0 (a3 + 1).toNatClampNeg) (o71.2.1 33 0 (a3 + 2).toNatClampNeg) o71.2).bind fun o72 =>
          if o71.1 = o72.1 then
            some (Sum.inl (a3 + 6), o72.2)
          else
            some (Sum.inr (Sum.inr false), o72.2)
        else none
      else none
    else none
  else none
noncomputable def fL_law_j883 (q : Nat) (a3 : Int32) (m : MM) : Option (((Int32) ⊕ ((Unit) ⊕ (Bool))) × MM) :=
  bif inB (a3 + 1) q then
    bif inB (a3 + 2) q then
      bif inB (a3 + 3) q then
        (fX6_ahead 0 (m.1 33 0 (a3 + 1).toNatClampNeg) (m.1 33 0 (a3 + 2).toNatClampNeg) (m.1 33 0 (a3 + 3).toNatClampNeg) m).bind fun o73 =>
        bif inB (a3 + 1) q then
          bif inB (a3 + 2) q then
            bif inB (a3 + 3) q then
              (fX7_ahead 0 (o73.2.1 33 0 (a3 + 1).toNatClampNeg) (o73.2.1 33 0 (a3 + 2).toNatClampNeg) (o73.2.1 33 0 (a3 + 3).toNatClampNeg) o73.2).bind fun o74 =>
              if o73.1 = o74.1 then
                some (Sum.inl (a3 + 6), o74.2)
              else
                some (Sum.inr (Sum.inr false), o74.2)
            else none
          else none
        else none
      else none
    else none
  else none
noncomputable def fL_law_j860 (q : Nat) (a3 : Int32) (m : MM) : Option (((Int32) ⊕ ((Unit) ⊕ (Bool))) × MM) :=
  bif inB (a3 + 1) q then
    (fX6_currentAt 0 (m.1 33 0 (a3 + 1).toNatClampNeg) m).bind fun o75 =>
    bif inB (a3 + 1) q then
      (fX7_currentAt 0 (o75.2.1 33 0 (a3 + 1).toNatClampNeg) o75.2).bind fun o76 =>
      if o75.1 = o76.1 then
        some (Sum.inl (a3 + 6), o76.2)
      else
        some (Sum.inr (Sum.inr false), o76.2)
    else none
  else none
noncomputable def fL_law_j827 (q : Nat) (a3 : Int32) (m : MM) : Option (((Int32) ⊕ ((Unit) ⊕ (Bool))) × MM) :=
  bif inB (a3 + 1) q then
    bif inB (a3 + 2) q then
      (fX6_walkerOf 0 (m.1 33 0 (a3 + 1).toNatClampNeg) (m.1 33 0 (a3 + 2).toNatClampNeg) m).bind fun o77 =>
      bif inB (a3 + 1) q then
        bif inB (a3 + 2) q then
          (fX7_walkerOf 0 (o77.2.1 33 0 (a3 + 1).toNatClampNeg) (o77.2.1 33 0 (a3 + 2).toNatClampNeg) o77.2).bind fun o78 =>
          if o77.1 = o78.1 then
            some (Sum.inl (a3 + 6), o78.2)
          else
            some (Sum.inr (Sum.inr false), o78.2)
        else none
      else none
    else none
  else none
noncomputable def fL_law_j794 (q : Nat) (a3 : Int32) (m : MM) : Option (((Int32) ⊕ ((Unit) ⊕ (Bool))) × MM) :=
  bif inB (a3 + 1) q then
    bif inB (a3 + 2) q then
      (fX6_bottleOf 0 (m.1 33 0 (a3 + 1).toNatClampNeg) (m.1 33 0 (a3 + 2).toNatClampNeg) m).bind fun o79 =>
      bif inB (a3 + 1) q then
        bif inB (a3 + 2) q then
          (fX7_bottleOf 0 (o79.2.1 33 0 (a3 + 1).toNatClampNeg) (o79.2.1 33 0 (a3 + 2).toNatClampNeg) o79.2).bind fun o80 =>
          if o79.1 = o80.1 then
            some (Sum.inl (a3 + 6), o80.2)
          else
            some (Sum.inr (Sum.inr false), o80.2)
        else none
      else none
    else none
  else none
noncomputable def fL_law_j781 (q : Nat) (a3 : Int32) (m : MM) : Option (((Int32) ⊕ ((Unit) ⊕ (Bool))) × MM) :=
  (fX6_coast 0 m).bind fun o81 =>
  (fX7_coast 0 o81.2).bind fun o82 =>
  if o81.1 = o82.1 then
    some (Sum.inl (a3 + 6), o82.2)
  else
    some (Sum.inr (Sum.inr false), o82.2)
noncomputable def fL_law_j768 (q : Nat) (a3 : Int32) (m : MM) : Option (((Int32) ⊕ ((Unit) ⊕ (Bool))) × MM) :=
  (fX6_wipe 0 m).bind fun o83 =>
  (fX7_wipe 0 o83.2).bind fun o84 =>
  if o83.1 = o84.1 then
    some (Sum.inl (a3 + 6), o84.2)
  else
    some (Sum.inr (Sum.inr false), o84.2)
noncomputable def fL_law_j745 (q : Nat) (a3 : Int32) (m : MM) : Option (((Int32) ⊕ ((Unit) ⊕ (Bool))) × MM) :=
  bif inB (a3 + 1) q then
    (fX6_feed 0 (m.1 33 0 (a3 + 1).toNatClampNeg) m).bind fun o85 =>
    bif inB (a3 + 1) q then
      (fX7_feed 0 (o85.2.1 33 0 (a3 + 1).toNatClampNeg) o85.2).bind fun o86 =>
      if o85.1 = o86.1 then
        some (Sum.inl (a3 + 6), o86.2)
      else
        some (Sum.inr (Sum.inr false), o86.2)
    else none
  else none
noncomputable def fL_law_j712 (q : Nat) (a3 : Int32) (m : MM) : Option (((Int32) ⊕ ((Unit) ⊕ (Bool))) × MM) :=
  bif inB (a3 + 1) q then
    bif inB (a3 + 2) q then
      (fX6_tell 0 (m.1 33 0 (a3 + 1).toNatClampNeg) (m.1 33 0 (a3 + 2).toNatClampNeg) m).bind fun o87 =>
      bif inB (a3 + 1) q then
        bif inB (a3 + 2) q then
          (fX7_tell 0 (o87.2.1 33 0 (a3 + 1).toNatClampNeg) (o87.2.1 33 0 (a3 + 2).toNatClampNeg) o87.2).bind fun o88 =>
          if o87.1 = o88.1 then
            some (Sum.inl (a3 + 6), o88.2)
          else
            some (Sum.inr (Sum.inr false), o88.2)
        else none
      else none
    else none
  else none
noncomputable def fL_law_j679 (q : Nat) (a3 : Int32) (m : MM) : Option (((Int32) ⊕ ((Unit) ⊕ (Bool))) × MM) :=
  bif inB (a3 + 1) q then
    bif inB (a3 + 2) q then
      (fX6_current 0 (m.1 33 0 (a3 + 1).toNatClampNeg) (m.1 33 0 (a3 + 2).toNatClampNeg) m).bind fun o89 =>
      bif inB (a3 + 1) q then
        bif inB (a3 + 2) q then
          (fX7_current 0 (o89.2.1 33 0 (a3 + 1).toNatClampNeg) (o89.2.1 33 0 (a3 + 2).toNatClampNeg) o89.2).bind fun o90 =>
          if o89.1 = o90.1 then
            some (Sum.inl (a3 + 6), o90.2)
          else
            some (Sum.inr (Sum.inr false), o90.2)
        else none
      else none
    else none
  else none
noncomputable def fL_law_j636 (q : Nat) (a3 : Int32) (m : MM) : Option (((Int32) ⊕ ((Unit) ⊕ (Bool))) × MM) :=
  bif inB (a3 + 1) q then
    bif inB (a3 + 2) q then
      bif inB (a3 + 3) q then
        (fX6_sends 0 (m.1 33 0 (a3 + 1).toNatClampNeg) (m.1 33 0 (a3 + 2).toNatClampNeg) (m.1 33 0 (a3 + 3).toNatClampNeg) m).bind fun o91 =>
        bif inB (a3 + 1) q then
          bif inB (a3 + 2) q then
            bif inB (a3 + 3) q then
              (fX7_sends 0 (o91.2.1 33 0 (a3 + 1).toNatClampNeg) (o91.2.1 33 0 (a3 + 2).toNatClampNeg) (o91.2.1 33 0 (a3 + 3).toNatClampNeg) o91.2).bind fun o92 =>
              if o91.1 = o92.1 then
                some (Sum.inl (a3 + 6), o92.2)
              else
                some (Sum.inr (Sum.inr false), o92.2)
            else none
          else none
        else none
      else none
    else none
  else none
noncomputable def fL_law_j593 (q : Nat) (a3 : Int32) (m : MM) : Option (((Int32) ⊕ ((Unit) ⊕ (Bool))) × MM) :=
  bif inB (a3 + 1) q then
    bif inB (a3 + 2) q then
      bif inB (a3 + 3) q then
        (fX6_walker 0 (m.1 33 0 (a3 + 1).toNatClampNeg) (m.1 33 0 (a3 + 2).toNatClampNeg) (m.1 33 0 (a3 + 3).toNatClampNeg) m).bind fun o93 =>
        bif inB (a3 + 1) q then
          bif inB (a3 + 2) q then
            bif inB (a3 + 3) q then
              (fX7_walker 0 (o93.2.1 33 0 (a3 + 1).toNatClampNeg) (o93.2.1 33 0 (a3 + 2).toNatClampNeg) (o93.2.1 33 0 (a3 + 3).toNatClampNeg) o93.2).bind fun o94 =>
              if o93.1 = o94.1 then
                some (Sum.inl (a3 + 6), o94.2)
              else
                some (Sum.inr (Sum.inr false), o94.2)
            else none
          else none
        else none
      else none
    else none
  else none
noncomputable def fL_law_j570 (q : Nat) (a3 : Int32) (m : MM) : Option (((Int32) ⊕ ((Unit) ⊕ (Bool))) × MM) :=
  bif inB (a3 + 1) q then
    (fX6_paves 0 (m.1 33 0 (a3 + 1).toNatClampNeg) m).bind fun o95 =>
    bif inB (a3 + 1) q then
      (fX7_paves 0 (o95.2.1 33 0 (a3 + 1).toNatClampNeg) o95.2).bind fun o96 =>
      if o95.1 = o96.1 then
        some (Sum.inl (a3 + 6), o96.2)
      else
        some (Sum.inr (Sum.inr false), o96.2)
    else none
  else none
noncomputable def fL_law_j537 (q : Nat) (a3 : Int32) (m : MM) : Option (((Int32) ⊕ ((Unit) ⊕ (Bool))) × MM) :=
  bif inB (a3 + 1) q then
    bif inB (a3 + 2) q then
      (fX6_says 0 (m.1 33 0 (a3 + 1).toNatClampNeg) (m.1 33 0 (a3 + 2).toNatClampNeg) m).bind fun o97 =>
      bif inB (a3 + 1) q then
        bif inB (a3 + 2) q then
          (fX7_says 0 (o97.2.1 33 0 (a3 + 1).toNatClampNeg) (o97.2.1 33 0 (a3 + 2).toNatClampNeg) o97.2).bind fun o98 =>
          if o97.1 = o98.1 then
            some (Sum.inl (a3 + 6), o98.2)
          else
            some (Sum.inr (Sum.inr false), o98.2)
        else none
      else none
    else none
  else none
noncomputable def fL_law_j504 (q : Nat) (a3 : Int32) (m : MM) : Option (((Int32) ⊕ ((Unit) ⊕ (Bool))) × MM) :=
  bif inB (a3 + 1) q then
    bif inB (a3 + 2) q then
      (fX6_show 0 (m.1 33 0 (a3 + 1).toNatClampNeg) (m.1 33 0 (a3 + 2).toNatClampNeg) m).bind fun o99 =>
      bif inB (a3 + 1) q then
        bif inB (a3 + 2) q then
          (fX7_show 0 (o99.2.1 33 0 (a3 + 1).toNatClampNeg) (o99.2.1 33 0 (a3 + 2).toNatClampNeg) o99.2).bind fun o100 =>
          if o99.1 = o100.1 then
            some (Sum.inl (a3 + 6), o100.2)
          else
            some (Sum.inr (Sum.inr false), o100.2)
        else none
      else none
    else none
  else none
noncomputable def fL_law_j481 (q : Nat) (a3 : Int32) (m : MM) : Option (((Int32) ⊕ ((Unit) ⊕ (Bool))) × MM) :=
  bif inB (a3 + 1) q then
    (fX6_holds 0 (m.1 33 0 (a3 + 1).toNatClampNeg) m).bind fun o101 =>
    bif inB (a3 + 1) q then
      (fX7_holds 0 (o101.2.1 33 0 (a3 + 1).toNatClampNeg) o101.2).bind fun o102 =>
      if o101.1 = o102.1 then
        some (Sum.inl (a3 + 6), o102.2)
      else
        some (Sum.inr (Sum.inr false), o102.2)
    else none
  else none
noncomputable def fL_law_j447 (q : Nat) (a3 : Int32) (m : MM) : Option (((Int32) ⊕ ((Unit) ⊕ (Bool))) × MM) :=
  bif inB (a3 + 1) q then
    bif inB (a3 + 2) q then
      (fX6_element 0 (m.1 33 0 (a3 + 1).toNatClampNeg) (m.1 33 0 (a3 + 2).toNatClampNeg) m).bind fun o103 =>
      bif inB (a3 + 1) q then
        bif inB (a3 + 2) q then
          (fX7_element 0 (o103.2.1 33 0 (a3 + 1).toNatClampNeg) (o103.2.1 33 0 (a3 + 2).toNatClampNeg) o103.2).bind fun o104 =>
          if (lg_cmp o103.1 o104.1) = 0 then
            some (Sum.inl (a3 + 6), o104.2)
          else
            some (Sum.inr (Sum.inr false), o104.2)
        else none
      else none
    else none
  else none
noncomputable def fL_law_j384 (q : Nat) (a3 : Int32) (m : MM) : Option (((Int32) ⊕ ((Unit) ⊕ (Bool))) × MM) :=
  bif inB (a3 + 1) q then
    bif inB (a3 + 2) q then
      bif inB (a3 + 3) q then
        bif inB (a3 + 4) q then
          bif inB (a3 + 5) q then
            (fX6_copy 0 (m.1 33 0 (a3 + 1).toNatClampNeg) (m.1 33 0 (a3 + 2).toNatClampNeg) (m.1 33 0 (a3 + 3).toNatClampNeg) (m.1 33 0 (a3 + 4).toNatClampNeg) (m.1 33 0 (a3 + 5).toNatClampNeg) m).bind fun o105 =>
            bif inB (a3 + 1) q then
              bif inB (a3 + 2) q then
                bif inB (a3 + 3) q then
                  bif inB (a3 + 4) q then
                    bif inB (a3 + 5) q then
                      (fX7_copy 0 (o105.2.1 33 0 (a3 + 1).toNatClampNeg) (o105.2.1 33 0 (a3 + 2).toNatClampNeg) (o105.2.1 33 0 (a3 + 3).toNatClampNeg) (o105.2.1 33 0 (a3 + 4).toNatClampNeg) (o105.2.1 33 0 (a3 + 5).toNatClampNeg) o105.2).bind fun o106 =>
                      if o105.1 = o106.1 then
                        some (Sum.inl (a3 + 6), o106.2)
                      else
                        some (Sum.inr (Sum.inr false), o106.2)
                    else none
                  else none
                else none
              else none
            else none
          else none
        else none
      else none
    else none
  else none
noncomputable def fL_law_j311 (q : Nat) (a3 : Int32) (m : MM) : Option (((Int32) ⊕ ((Unit) ⊕ (Bool))) × MM) :=
  bif inB (a3 + 1) q then
    bif inB (a3 + 2) q then
      bif inB (a3 + 3) q then
        bif inB (a3 + 4) q then
          (fX6_set 0 (m.1 33 0 (a3 + 1).toNatClampNeg) (m.1 33 0 (a3 + 2).toNatClampNeg) (((m.1 33 0 (a3 + 3).toNatClampNeg).toInt64 <<< ((32 : Int32).toInt64 &&& 63)) ||| ((m.1 33 0 (a3 + 4).toNatClampNeg).toInt64 &&& 4294967295)) m).bind fun o107 =>
          bif inB (a3 + 1) q then
            bif inB (a3 + 2) q then
              bif inB (a3 + 3) q then
                bif inB (a3 + 4) q then
                  (fX7_set 0 (o107.2.1 33 0 (a3 + 1).toNatClampNeg) (o107.2.1 33 0 (a3 + 2).toNatClampNeg) (((o107.2.1 33 0 (a3 + 3).toNatClampNeg).toInt64 <<< ((32 : Int32).toInt64 &&& 63)) ||| ((o107.2.1 33 0 (a3 + 4).toNatClampNeg).toInt64 &&& 4294967295)) o107.2).bind fun o108 =>
                  if o107.1 = o108.1 then
                    some (Sum.inl (a3 + 6), o108.2)
                  else
                    some (Sum.inr (Sum.inr false), o108.2)
                else none
              else none
            else none
          else none
        else none
      else none
    else none
  else none
noncomputable def fL_law_j268 (q : Nat) (a3 : Int32) (m : MM) : Option (((Int32) ⊕ ((Unit) ⊕ (Bool))) × MM) :=
  bif inB (a3 + 1) q then
    bif inB (a3 + 2) q then
      bif inB (a3 + 3) q then
        (fX6_row 0 (m.1 33 0 (a3 + 1).toNatClampNeg) (m.1 33 0 (a3 + 2).toNatClampNeg) (m.1 33 0 (a3 + 3).toNatClampNeg) m).bind fun o109 =>
        bif inB (a3 + 1) q then
          bif inB (a3 + 2) q then
            bif inB (a3 + 3) q then
              (fX7_row 0 (o109.2.1 33 0 (a3 + 1).toNatClampNeg) (o109.2.1 33 0 (a3 + 2).toNatClampNeg) (o109.2.1 33 0 (a3 + 3).toNatClampNeg) o109.2).bind fun o110 =>
              if o109.1 = o110.1 then
                some (Sum.inl (a3 + 6), o110.2)
              else
                some (Sum.inr (Sum.inr false), o110.2)
            else none
          else none
        else none
      else none
    else none
  else none
noncomputable def fL_law_b18 (q : Nat) (s : Int32) (m : MM) : Option (((Int32) ⊕ ((Unit) ⊕ (Bool))) × MM) :=
  if ((nI q) - 6) < s then
    some (Sum.inr (Sum.inl ()), m)
  else
    bif inB s q then
      if ((m.1 33 0 s.toNatClampNeg) &&& 63) = 0 then
        fL_law_j268 q s m
      else
        if ((m.1 33 0 s.toNatClampNeg) &&& 63) = 1 then
          fL_law_j311 q s m
        else
          if ((m.1 33 0 s.toNatClampNeg) &&& 63) = 2 then
            fL_law_j384 q s m
          else
            if ((m.1 33 0 s.toNatClampNeg) &&& 63) = 3 then
              fL_law_j447 q s m
            else
              if ((m.1 33 0 s.toNatClampNeg) &&& 63) = 4 then
                fL_law_j481 q s m
              else
                if ((m.1 33 0 s.toNatClampNeg) &&& 63) = 5 then
                  fL_law_j504 q s m
                else
                  if ((m.1 33 0 s.toNatClampNeg) &&& 63) = 6 then
                    fL_law_j537 q s m
                  else
                    if ((m.1 33 0 s.toNatClampNeg) &&& 63) = 7 then
                      fL_law_j570 q s m
                    else
                      if ((m.1 33 0 s.toNatClampNeg) &&& 63) = 8 then
                        fL_law_j593 q s m
                      else
                        if ((m.1 33 0 s.toNatClampNeg) &&& 63) = 9 then
                          fL_law_j636 q s m
                        else
                          if ((m.1 33 0 s.toNatClampNeg) &&& 63) = 10 then
                            fL_law_j679 q s m
                          else
                            if ((m.1 33 0 s.toNatClampNeg) &&& 63) = 11 then
                              fL_law_j712 q s m
                            else
                              if ((m.1 33 0 s.toNatClampNeg) &&& 63) = 12 then
                                fL_law_j745 q s m
                              else
                                if ((m.1 33 0 s.toNatClampNeg) &&& 63) = 13 then
                                  fL_law_j768 q s m
                                else
                                  if ((m.1 33 0 s.toNatClampNeg) &&& 63) = 14 then
                                    fL_law_j781 q s m
                                  else
                                    if ((m.1 33 0 s.toNatClampNeg) &&& 63) = 15 then
                                      fL_law_j794 q s m
                                    else
                                      if ((m.1 33 0 s.toNatClampNeg) &&& 63) = 16 then
                                        fL_law_j827 q s m
                                      else
                                        if ((m.1 33 0 s.toNatClampNeg) &&& 63) = 17 then
                                          fL_law_j860 q s m
                                        else
                                          if ((m.1 33 0 s.toNatClampNeg) &&& 63) = 18 then
                                            fL_law_j883 q s m
                                          else
                                            if ((m.1 33 0 s.toNatClampNeg) &&& 63) = 19 then
                                              fL_law_j926 q s m
                                            else
                                              if ((m.1 33 0 s.toNatClampNeg) &&& 63) = 20 then
                                                fL_law_j959 q s m
                                              else
                                                if ((m.1 33 0 s.toNatClampNeg) &&& 63) = 21 then
                                                  fL_law_j982 q s m
                                                else
                                                  if ((m.1 33 0 s.toNatClampNeg) &&& 63) = 22 then
                                                    fL_law_j1005 q s m
                                                  else
                                                    if ((m.1 33 0 s.toNatClampNeg) &&& 63) = 23 then
                                                      fL_law_j1038 q s m
                                                    else
                                                      if ((m.1 33 0 s.toNatClampNeg) &&& 63) = 24 then
                                                        fL_law_j1061 q s m
                                                      else
                                                        if ((m.1 33 0 s.toNatClampNeg) &&& 63) = 25 then
                                                          fL_law_j1094 q s m
                                                        else
                                                          if ((m.1 33 0 s.toNatClampNeg) &&& 63) = 26 then
                                                            fL_law_j1147 q s m
                                                          else
                                                            if ((m.1 33 0 s.toNatClampNeg) &&& 63) = 27 then
                                                              fL_law_j1190 q s m
                                                            else
                                                              if ((m.1 33 0 s.toNatClampNeg) &&& 63) = 28 then
                                                                fL_law_j1243 q s m
                                                              else
                                                                if ((m.1 33 0 s.toNatClampNeg) &&& 63) = 29 then
                                                                  fL_law_j1286 q s m
                                                                else
                                                                  if ((m.1 33 0 s.toNatClampNeg) &&& 63) = 30 then
                                                                    fL_law_j1319 q s m
                                                                  else
                                                                    if ((m.1 33 0 s.toNatClampNeg) &&& 63) = 31 then
                                                                      fL_law_j1352 q s m
                                                                    else
                                                                      if ((m.1 33 0 s.toNatClampNeg) &&& 63) = 32 then
                                                                        fL_law_j1395 q s m
                                                                      else
                                                                        if ((m.1 33 0 s.toNatClampNeg) &&& 63) = 33 then
                                                                          fL_law_j1418 q s m
                                                                        else
                                                                          if ((m.1 33 0 s.toNatClampNeg) &&& 63) = 34 then
                                                                            fL_law_j1451 q s m
                                                                          else
                                                                            if ((m.1 33 0 s.toNatClampNeg) &&& 63) = 35 then
                                                                              fL_law_j1474 q s m
                                                                            else
                                                                              if ((m.1 33 0 s.toNatClampNeg) &&& 63) = 36 then
                                                                                fL_law_j1507 q s m
                                                                              else
                                                                                if ((m.1 33 0 s.toNatClampNeg) &&& 63) = 37 then
                                                                                  fL_law_j1530 q s m
                                                                                else
                                                                                  if ((m.1 33 0 s.toNatClampNeg) &&& 63) = 38 then
                                                                                    fL_law_j1563 q s m
                                                                                  else
                                                                                    if ((m.1 33 0 s.toNatClampNeg) &&& 63) = 39 then
                                                                                      fL_law_j1586 q s m
                                                                                    else
                                                                                      if ((m.1 33 0 s.toNatClampNeg) &&& 63) = 40 then
                                                                                        fL_law_j1609 q s m
                                                                                      else
                                                                                        if ((m.1 33 0 s.toNatClampNeg) &&& 63) = 41 then
                                                                                          fL_law_j1642 q s m
                                                                                        else
                                                                                          if ((m.1 33 0 s.toNatClampNeg) &&& 63) = 42 then
                                                                                            fL_law_j1665 q s m
                                                                                          else
                                                                                            if ((m.1 33 0 s.toNatClampNeg) &&& 63) = 43 then
                                                                                              fL_law_j1688 q s m
                                                                                            else
                                                                                              if ((m.1 33 0 s.toNatClampNeg) &&& 63) = 44 then
                                                                                                fL_law_j1731 q s m
                                                                                              else
                                                                                                if ((m.1 33 0 s.toNatClampNeg) &&& 63) = 45 then
                                                                                                  fL_law_j1764 q s m
                                                                                                else
                                                                                                  if ((m.1 33 0 s.toNatClampNeg) &&& 63) = 46 then
                                                                                                    fL_law_j1777 q s m
                                                                                                  else
                                                                                                    if ((m.1 33 0 s.toNatClampNeg) &&& 63) = 47 then
                                                                                                      fL_law_j1800 q s m
                                                                                                    else
                                                                                                      if ((m.1 33 0 s.toNatClampNeg) &&& 63) = 48 then
                                                                                                        fL_law_j1843 q s m
                                                                                                      else
                                                                                                        if ((m.1 33 0 s.toNatClampNeg) &&& 63) = 49 then
                                                                                                          fL_law_j1896 q s m
                                                                                                        else
                                                                                                          if ((m.1 33 0 s.toNatClampNeg) &&& 63) = 50 then
                                                                                                            fL_law_j1919 q s m
                                                                                                          else
                                                                                                            if ((m.1 33 0 s.toNatClampNeg) &&& 63) = 51 then
                                                                                                              fL_law_j1942 q s m
                                                                                                            else
                                                                                                              if ((m.1 33 0 s.toNatClampNeg) &&& 63) = 52 then
                                                                                                                fL_law_j1965 q s m
                                                                                                              else
                                                                                                                if ((m.1 33 0 s.toNatClampNeg) &&& 63) = 53 then
                                                                                                                  fL_law_j1978 q s m
                                                                                                                else
                                                                                                                  if ((m.1 33 0 s.toNatClampNeg) &&& 63) = 54 then
                                                                                                                    fL_law_j1991 q s m
                                                                                                                  else
                                                                                                                    some (Sum.inl (s + 6), m)
    else none
noncomputable def fL_law (q : Nat) (a3 : Int32) (m : MM) : Option (Bool × MM) :=
  (loopF 1000 (fL_law_b18 q) a3 m).bind fun o111 => match o111.1 with
  | Sum.inl x112 =>
    some (true, o111.2)
  | Sum.inr rv =>
    some (rv, o111.2)
