theorem LW_rg {g : XC} {b L : Nat} {sc : Nat → Int} (LW : LawOk g b L sc) (k : Nat) : rg (sc k) := by
  obtain ⟨⟨ys, _, h⟩, _⟩ := LW
  rw [h k]
  have a1 := Int32.le_toInt (ys k)
  have a2 := Int32.toInt_lt (ys k)
  unfold rg
  omega
set_option maxRecDepth 100000 in
set_option maxHeartbeats 4000000 in
theorem law_sw {g : XC} (C : XOk g cL_law RL lw_tbl room_1 4) {b L : Nat} {sc : Nat → Int} (LW : LawOk g b L sc) {qx rw q : Nat → Nat} {x : Nat → Int} {X : Nat → Nat → Int} {kx : Nat → Int64} {it : Nat → Nat → Int64} {F : Nat → Int} {B : Nat → Nat → Int} {cl bt : Nat → Int64} (hR : Rel x X kx it F B cl bt) (i : Int) (h1 : iin (i + 1) L = true) (h2 : iin (i + 2) L = true) (h3 : iin (i + 3) L = true) (h4 : iin (i + 4) L = true) (h5 : iin (i + 5) L = true) (z : Int) (next : ∀ {x : Nat → Int} {X : Nat → Nat → Int} {kx : Nat → Int64} {it : Nat → Nat → Int64} {F : Nat → Int} {B : Nat → Nat → Int} {cl bt : Nat → Int64}, Rel x X kx it F B cl bt → WW g 600000 7302250 (wLaw (xG g) qx rw q x X kx it F B cl bt) 1360 [(0, .ref b), (1, .ref (qx 0)), (2, .ref (q 35)), (3, .int (jz i))] []) : WW g 600000 7302250 (wLaw (xG g) qx rw q x X kx it F B cl bt) 33 [(0, .ref b), (1, .ref (qx 0)), (2, .ref (q 35)), (3, .int (jz i))] [.int (jz z)] := by
  cases b0 : eqI z 0 with
  | true =>
    obtain ⟨r, o0, o1, o2, o3, o0', o1', o2', o3', eX, eM, hR2⟩ := st_0 hR (sc (ix (i + 1))) (LW_rg LW _)
    refine r_tableIn C (pc := 33) 196 dL_law_33 0 163 b0 (by decide) (by decide) (by decide +kernel) rfl ?_
    exact law_0 C LW qx rw q x X kx it F B cl bt i h1 h2 h3 h4 h5 r o0 o1 o2 o3 o0' o1' o2' o3' eX eM (next hR2)
  | false =>
  cases b1 : eqI z 1 with
  | true =>
    obtain ⟨r, o0, o0', eX, eM, hR2⟩ := st_1 hR (sc (ix (i + 1))) (LW_rg LW _) (sc (ix (i + 2))) (LW_rg LW _) (sc (ix (i + 3))) (LW_rg LW _)
    refine r_tableIn C (pc := 33) 219 dL_law_33 1 186 b1 (by decide) (by decide) (by decide +kernel) rfl ?_
    exact law_1 C LW qx rw q x X kx it F B cl bt i h1 h2 h3 h4 h5 r o0 o0' eX eM (next hR2)
  | false =>
  cases b2 : eqI z 2 with
  | true =>
    obtain ⟨r, o0, o1, o2, o0', o1', eX, eM, hR2⟩ := st_2 hR 
    refine r_tableIn C (pc := 33) 262 dL_law_33 2 229 b2 (by decide) (by decide) (by decide +kernel) rfl ?_
    exact law_2 C LW qx rw q x X kx it F B cl bt i h1 h2 h3 h4 h5 r o0 o1 o2 o0' o1' eX eM (next hR2)
  | false =>
  cases b3 : eqI z 3 with
  | true =>
    obtain ⟨r, o0, o0', eX, eM, hR2⟩ := st_3 hR (sc (ix (i + 1))) (LW_rg LW _) (sc (ix (i + 2))) (LW_rg LW _)
    refine r_tableIn C (pc := 33) 275 dL_law_33 3 242 b3 (by decide) (by decide) (by decide +kernel) rfl ?_
    exact law_3 C LW qx rw q x X kx it F B cl bt i h1 h2 h3 h4 h5 r o0 o0' eX eM (next hR2)
  | false =>
  cases b4 : eqI z 4 with
  | true =>
    obtain ⟨r, o0, o1, o2, o3, o4, o5, o6, o7, o8, o0', o1', o2', o3', o4', eX, eM, hR2⟩ := st_4 hR (sc (ix (i + 1))) (LW_rg LW _) (sc (ix (i + 2))) (LW_rg LW _)
    refine r_tableIn C (pc := 33) 308 dL_law_33 4 275 b4 (by decide) (by decide) (by decide +kernel) rfl ?_
    exact law_4 C LW qx rw q x X kx it F B cl bt i h1 h2 h3 h4 h5 r o0 o1 o2 o3 o4 o5 o6 o7 o8 o0' o1' o2' o3' o4' eX eM (next hR2)
  | false =>
  cases b5 : eqI z 5 with
  | true =>
    obtain ⟨r, o0, o0', eX, eM, hR2⟩ := st_5 hR (sc (ix (i + 1))) (LW_rg LW _) (sc (ix (i + 2))) (LW_rg LW _)
    refine r_tableIn C (pc := 33) 341 dL_law_33 5 308 b5 (by decide) (by decide) (by decide +kernel) rfl ?_
    exact law_5 C LW qx rw q x X kx it F B cl bt i h1 h2 h3 h4 h5 r o0 o0' eX eM (next hR2)
  | false =>
  cases b6 : eqI z 6 with
  | true =>
    obtain ⟨r, o0, o1, o0', o1', eX, eM, hR2⟩ := st_6 hR (sc (ix (i + 1))) (LW_rg LW _)
    refine r_tableIn C (pc := 33) 374 dL_law_33 6 341 b6 (by decide) (by decide) (by decide +kernel) rfl ?_
    exact law_6 C LW qx rw q x X kx it F B cl bt i h1 h2 h3 h4 h5 r o0 o1 o0' o1' eX eM (next hR2)
  | false =>
  cases b7 : eqI z 7 with
  | true =>
    obtain ⟨r, o0, o1, o2, o3, o4, o5, o6, o0', o1', o2', o3', o4', o5', o6', o7', o8', o9', o10', o11', eX, eM, hR2⟩ := st_7 hR 
    refine r_tableIn C (pc := 33) 397 dL_law_33 7 364 b7 (by decide) (by decide) (by decide +kernel) rfl ?_
    exact law_7 C LW qx rw q x X kx it F B cl bt i h1 h2 h3 h4 h5 r o0 o1 o2 o3 o4 o5 o6 o0' o1' o2' o3' o4' o5' o6' o7' o8' o9' o10' o11' eX eM (next hR2)
  | false =>
  cases b8 : eqI z 8 with
  | true =>
    obtain ⟨r, o0, o1, o2, o3, o4, o5, o6, o7, o0', o1', o2', eX, eM, hR2⟩ := st_8 hR (sc (ix (i + 1))) (LW_rg LW _) (sc (ix (i + 2))) (LW_rg LW _) (sc (ix (i + 3))) (LW_rg LW _)
    refine r_tableIn C (pc := 33) 410 dL_law_33 8 377 b8 (by decide) (by decide) (by decide +kernel) rfl ?_
    exact law_8 C LW qx rw q x X kx it F B cl bt i h1 h2 h3 h4 h5 r o0 o1 o2 o3 o4 o5 o6 o7 o0' o1' o2' eX eM (next hR2)
  | false =>
  cases b9 : eqI z 9 with
  | true =>
    obtain ⟨r, o0, o1, o2, o3, o4, o5, o0', eX, eM, hR2⟩ := st_9 hR (sc (ix (i + 1))) (LW_rg LW _)
    refine r_tableIn C (pc := 33) 453 dL_law_33 9 420 b9 (by decide) (by decide) (by decide +kernel) rfl ?_
    exact law_9 C LW qx rw q x X kx it F B cl bt i h1 h2 h3 h4 h5 r o0 o1 o2 o3 o4 o5 o0' eX eM (next hR2)
  | false =>
  cases b10 : eqI z 10 with
  | true =>
    obtain ⟨r, eX, eM, hR2⟩ := st_10 hR (sc (ix (i + 1))) (LW_rg LW _)
    refine r_tableIn C (pc := 33) 476 dL_law_33 10 443 b10 (by decide) (by decide) (by decide +kernel) rfl ?_
    exact law_10 C LW qx rw q x X kx it F B cl bt i h1 h2 h3 h4 h5 r  eX eM (next hR2)
  | false =>
  cases b11 : eqI z 11 with
  | true =>
    obtain ⟨r, eX, eM, hR2⟩ := st_11 hR (sc (ix (i + 1))) (LW_rg LW _)
    refine r_tableIn C (pc := 33) 499 dL_law_33 11 466 b11 (by decide) (by decide) (by decide +kernel) rfl ?_
    exact law_11 C LW qx rw q x X kx it F B cl bt i h1 h2 h3 h4 h5 r  eX eM (next hR2)
  | false =>
  cases b12 : eqI z 12 with
  | true =>
    obtain ⟨r, eX, eM, hR2⟩ := st_12 hR (sc (ix (i + 1))) (LW_rg LW _) (sc (ix (i + 2))) (LW_rg LW _) (sc (ix (i + 3))) (LW_rg LW _)
    refine r_tableIn C (pc := 33) 522 dL_law_33 12 489 b12 (by decide) (by decide) (by decide +kernel) rfl ?_
    exact law_12 C LW qx rw q x X kx it F B cl bt i h1 h2 h3 h4 h5 r  eX eM (next hR2)
  | false =>
  cases b13 : eqI z 13 with
  | true =>
    obtain ⟨r, o0, o1, o2, o3, o4, o5, o6, o7, o0', o1', o2', o3', eX, eM, hR2⟩ := st_13 hR 
    refine r_tableIn C (pc := 33) 565 dL_law_33 13 532 b13 (by decide) (by decide) (by decide +kernel) rfl ?_
    exact law_13 C LW qx rw q x X kx it F B cl bt i h1 h2 h3 h4 h5 r o0 o1 o2 o3 o4 o5 o6 o7 o0' o1' o2' o3' eX eM (next hR2)
  | false =>
  cases b14 : eqI z 14 with
  | true =>
    obtain ⟨r, o0, o1, o2, o3, o4, o5, o6, o7, o0', o1', o2', o3', eX, eM, hR2⟩ := st_14 hR (sc (ix (i + 1))) (LW_rg LW _) (sc (ix (i + 2))) (LW_rg LW _)
    refine r_tableIn C (pc := 33) 578 dL_law_33 14 545 b14 (by decide) (by decide) (by decide +kernel) rfl ?_
    exact law_14 C LW qx rw q x X kx it F B cl bt i h1 h2 h3 h4 h5 r o0 o1 o2 o3 o4 o5 o6 o7 o0' o1' o2' o3' eX eM (next hR2)
  | false =>
  cases b15 : eqI z 15 with
  | true =>
    obtain ⟨r, o0, o1, o2, o3, o4, o5, o6, o7, o0', o1', o2', o3', eX, eM, hR2⟩ := st_15 hR (sc (ix (i + 1))) (LW_rg LW _) (sc (ix (i + 2))) (LW_rg LW _)
    refine r_tableIn C (pc := 33) 611 dL_law_33 15 578 b15 (by decide) (by decide) (by decide +kernel) rfl ?_
    exact law_15 C LW qx rw q x X kx it F B cl bt i h1 h2 h3 h4 h5 r o0 o1 o2 o3 o4 o5 o6 o7 o0' o1' o2' o3' eX eM (next hR2)
  | false =>
  cases b16 : eqI z 16 with
  | true =>
    obtain ⟨r, o0, o1, o2, o3, o4, o5, o6, o7, o0', o1', o2', o3', eX, eM, hR2⟩ := st_16 hR (sc (ix (i + 1))) (LW_rg LW _) (sc (ix (i + 2))) (LW_rg LW _) (sc (ix (i + 3))) (LW_rg LW _)
    refine r_tableIn C (pc := 33) 644 dL_law_33 16 611 b16 (by decide) (by decide) (by decide +kernel) rfl ?_
    exact law_16 C LW qx rw q x X kx it F B cl bt i h1 h2 h3 h4 h5 r o0 o1 o2 o3 o4 o5 o6 o7 o0' o1' o2' o3' eX eM (next hR2)
  | false =>
  cases b17 : eqI z 17 with
  | true =>
    obtain ⟨r, o0, o1, o2, o3, o4, o5, o6, o7, o0', o1', o2', o3', eX, eM, hR2⟩ := st_17 hR (sc (ix (i + 1))) (LW_rg LW _) (sc (ix (i + 2))) (LW_rg LW _) (sc (ix (i + 3))) (LW_rg LW _)
    refine r_tableIn C (pc := 33) 687 dL_law_33 17 654 b17 (by decide) (by decide) (by decide +kernel) rfl ?_
    exact law_17 C LW qx rw q x X kx it F B cl bt i h1 h2 h3 h4 h5 r o0 o1 o2 o3 o4 o5 o6 o7 o0' o1' o2' o3' eX eM (next hR2)
  | false =>
  cases b18 : eqI z 18 with
  | true =>
    obtain ⟨r, o0, o1, o2, o3, o4, o5, o6, o7, o0', o1', o2', o3', eX, eM, hR2⟩ := st_18 hR (sc (ix (i + 1))) (LW_rg LW _)
    refine r_tableIn C (pc := 33) 730 dL_law_33 18 697 b18 (by decide) (by decide) (by decide +kernel) rfl ?_
    exact law_18 C LW qx rw q x X kx it F B cl bt i h1 h2 h3 h4 h5 r o0 o1 o2 o3 o4 o5 o6 o7 o0' o1' o2' o3' eX eM (next hR2)
  | false =>
  cases b19 : eqI z 19 with
  | true =>
    obtain ⟨r, eX, eM, hR2⟩ := st_19 hR (sc (ix (i + 1))) (LW_rg LW _)
    refine r_tableIn C (pc := 33) 753 dL_law_33 19 720 b19 (by decide) (by decide) (by decide +kernel) rfl ?_
    exact law_19 C LW qx rw q x X kx it F B cl bt i h1 h2 h3 h4 h5 r  eX eM (next hR2)
  | false =>
  cases b20 : eqI z 20 with
  | true =>
    obtain ⟨r, o0, o1, o2, o3, o4, o5, eX, eM, hR2⟩ := st_20 hR (sc (ix (i + 1))) (LW_rg LW _) (sc (ix (i + 2))) (LW_rg LW _)
    refine r_tableIn C (pc := 33) 776 dL_law_33 20 743 b20 (by decide) (by decide) (by decide +kernel) rfl ?_
    exact law_20 C LW qx rw q x X kx it F B cl bt i h1 h2 h3 h4 h5 r o0 o1 o2 o3 o4 o5 eX eM (next hR2)
  | false =>
  cases b21 : eqI z 21 with
  | true =>
    obtain ⟨r, o0, o1, o0', o1', o2', eX, eM, hR2⟩ := st_21 hR (sc (ix (i + 1))) (LW_rg LW _) (sc (ix (i + 2))) (LW_rg LW _)
    refine r_tableIn C (pc := 33) 809 dL_law_33 21 776 b21 (by decide) (by decide) (by decide +kernel) rfl ?_
    exact law_21 C LW qx rw q x X kx it F B cl bt i h1 h2 h3 h4 h5 r o0 o1 o0' o1' o2' eX eM (next hR2)
  | false =>
  cases b22 : eqI z 22 with
  | true =>
    obtain ⟨r, o0, o1, o0', eX, eM, hR2⟩ := st_22 hR (sc (ix (i + 1))) (LW_rg LW _) (sc (ix (i + 2))) (LW_rg LW _) (sc (ix (i + 3))) (LW_rg LW _)
    refine r_tableIn C (pc := 33) 842 dL_law_33 22 809 b22 (by decide) (by decide) (by decide +kernel) rfl ?_
    exact law_22 C LW qx rw q x X kx it F B cl bt i h1 h2 h3 h4 h5 r o0 o1 o0' eX eM (next hR2)
  | false =>
  cases b23 : eqI z 23 with
  | true =>
    obtain ⟨r, o0, o1, o2, o3, o4, o5, eX, eM, hR2⟩ := st_23 hR (sc (ix (i + 1))) (LW_rg LW _) (sc (ix (i + 2))) (LW_rg LW _) (sc (ix (i + 3))) (LW_rg LW _)
    refine r_tableIn C (pc := 33) 885 dL_law_33 23 852 b23 (by decide) (by decide) (by decide +kernel) rfl ?_
    exact law_23 C LW qx rw q x X kx it F B cl bt i h1 h2 h3 h4 h5 r o0 o1 o2 o3 o4 o5 eX eM (next hR2)
  | false =>
  cases b24 : eqI z 24 with
  | true =>
    obtain ⟨r, eX, eM, hR2⟩ := st_24 hR (sc (ix (i + 1))) (LW_rg LW _)
    refine r_tableIn C (pc := 33) 929 dL_law_33 24 896 b24 (by decide) (by decide) (by decide +kernel) rfl ?_
    exact law_24 C LW qx rw q x X kx it F B cl bt i h1 h2 h3 h4 h5 r  eX eM (next hR2)
  | false =>
  cases b25 : eqI z 25 with
  | true =>
    obtain ⟨r, o0, o1, o0', o1', o2', eX, eM, hR2⟩ := st_25 hR (sc (ix (i + 1))) (LW_rg LW _) (sc (ix (i + 2))) (LW_rg LW _)
    refine r_tableIn C (pc := 33) 953 dL_law_33 25 920 b25 (by decide) (by decide) (by decide +kernel) rfl ?_
    exact law_25 C LW qx rw q x X kx it F B cl bt i h1 h2 h3 h4 h5 r o0 o1 o0' o1' o2' eX eM (next hR2)
  | false =>
  cases b26 : eqI z 26 with
  | true =>
    obtain ⟨r, o0, o1, o2, o3, o4, o5, o6, o7, o0', o1', o2', eX, eM, hR2⟩ := st_26 hR (sc (ix (i + 1))) (LW_rg LW _)
    refine r_tableIn C (pc := 33) 986 dL_law_33 26 953 b26 (by decide) (by decide) (by decide +kernel) rfl ?_
    exact law_26 C LW qx rw q x X kx it F B cl bt i h1 h2 h3 h4 h5 r o0 o1 o2 o3 o4 o5 o6 o7 o0' o1' o2' eX eM (next hR2)
  | false =>
  cases b27 : eqI z 27 with
  | true =>
    obtain ⟨r, o0, o1, o0', o1', o2', o3', eX, eM, hR2⟩ := st_27 hR (sc (ix (i + 1))) (LW_rg LW _) (sc (ix (i + 2))) (LW_rg LW _) (sc (ix (i + 3))) (LW_rg LW _)
    refine r_tableIn C (pc := 33) 1009 dL_law_33 27 976 b27 (by decide) (by decide) (by decide +kernel) rfl ?_
    exact law_27 C LW qx rw q x X kx it F B cl bt i h1 h2 h3 h4 h5 r o0 o1 o0' o1' o2' o3' eX eM (next hR2)
  | false =>
  cases b28 : eqI z 28 with
  | true =>
    obtain ⟨r, eX, eM, hR2⟩ := st_28 hR 
    refine r_tableIn C (pc := 33) 1052 dL_law_33 28 1019 b28 (by decide) (by decide) (by decide +kernel) rfl ?_
    exact law_28 C LW qx rw q x X kx it F B cl bt i h1 h2 h3 h4 h5 r  eX eM (next hR2)
  | false =>
  cases b29 : eqI z 29 with
  | true =>
    obtain ⟨r, eX, eM, hR2⟩ := st_29 hR (sc (ix (i + 1))) (LW_rg LW _) (sc (ix (i + 2))) (LW_rg LW _)
    refine r_tableIn C (pc := 33) 1065 dL_law_33 29 1032 b29 (by decide) (by decide) (by decide +kernel) rfl ?_
    exact law_29 C LW qx rw q x X kx it F B cl bt i h1 h2 h3 h4 h5 r  eX eM (next hR2)
  | false =>
  cases b30 : eqI z 30 with
  | true =>
    obtain ⟨r, o0, o1, o2, o3, o4, o5, o6, o7, o8, o9, o10, o0', o1', eX, eM, hR2⟩ := st_30 hR 
    refine r_tableIn C (pc := 33) 1098 dL_law_33 30 1065 b30 (by decide) (by decide) (by decide +kernel) rfl ?_
    exact law_30 C LW qx rw q x X kx it F B cl bt i h1 h2 h3 h4 h5 r o0 o1 o2 o3 o4 o5 o6 o7 o8 o9 o10 o0' o1' eX eM (next hR2)
  | false =>
  cases b31 : eqI z 31 with
  | true =>
    obtain ⟨r, o0, o1, o2, o3, o4, o5, o6, o7, o8, o9, o0', o1', o2', o3', o4', o5', o6', o7', o8', o9', o10', o11', o12', o13', eX, eM, hR2⟩ := st_31 hR 
    refine r_tableIn C (pc := 33) 1111 dL_law_33 31 1078 b31 (by decide) (by decide) (by decide +kernel) rfl ?_
    exact law_31 C LW qx rw q x X kx it F B cl bt i h1 h2 h3 h4 h5 r o0 o1 o2 o3 o4 o5 o6 o7 o8 o9 o0' o1' o2' o3' o4' o5' o6' o7' o8' o9' o10' o11' o12' o13' eX eM (next hR2)
  | false =>
  cases b32 : eqI z 32 with
  | true =>
    obtain ⟨r, eX, eM, hR2⟩ := st_32 hR (sc (ix (i + 1))) (LW_rg LW _)
    refine r_tableIn C (pc := 33) 1124 dL_law_33 32 1091 b32 (by decide) (by decide) (by decide +kernel) rfl ?_
    exact law_32 C LW qx rw q x X kx it F B cl bt i h1 h2 h3 h4 h5 r  eX eM (next hR2)
  | false =>
  cases b33 : eqI z 33 with
  | true =>
    obtain ⟨r, o0, o1, o2, o0', o1', o2', eX, eM, hR2⟩ := st_33 hR (sc (ix (i + 1))) (LW_rg LW _) (sc (ix (i + 2))) (LW_rg LW _) (sc (ix (i + 3))) (LW_rg LW _)
    refine r_tableIn C (pc := 33) 1147 dL_law_33 33 1114 b33 (by decide) (by decide) (by decide +kernel) rfl ?_
    exact law_33 C LW qx rw q x X kx it F B cl bt i h1 h2 h3 h4 h5 r o0 o1 o2 o0' o1' o2' eX eM (next hR2)
  | false =>
  cases b34 : eqI z 34 with
  | true =>
    obtain ⟨r, o0, o0', eX, eM, hR2⟩ := st_34 hR (sc (ix (i + 1))) (LW_rg LW _) (sc (ix (i + 2))) (LW_rg LW _) (((lshlI (i2lI (sc (ix (i + 3)))) 32) ||| ((i2lI (sc (ix (i + 4)))) &&& (4294967295 : Int64))))
    refine r_tableIn C (pc := 33) 1190 dL_law_33 34 1157 b34 (by decide) (by decide) (by decide +kernel) rfl ?_
    exact law_34 C LW qx rw q x X kx it F B cl bt i h1 h2 h3 h4 h5 r o0 o0' eX eM (next hR2)
  | false =>
  cases b35 : eqI z 35 with
  | true =>
    obtain ⟨r, eX, eM, hR2⟩ := st_35 hR (sc (ix (i + 1))) (LW_rg LW _) (sc (ix (i + 2))) (LW_rg LW _)
    refine r_tableIn C (pc := 33) 1263 dL_law_33 35 1230 b35 (by decide) (by decide) (by decide +kernel) rfl ?_
    exact law_35 C LW qx rw q x X kx it F B cl bt i h1 h2 h3 h4 h5 r  eX eM (next hR2)
  | false =>
  cases b36 : eqI z 36 with
  | true =>
    obtain ⟨r, o0, o0', o1', eX, eM, hR2⟩ := st_36 hR (sc (ix (i + 1))) (LW_rg LW _) (sc (ix (i + 2))) (LW_rg LW _) (sc (ix (i + 3))) (LW_rg LW _) (sc (ix (i + 4))) (LW_rg LW _) (sc (ix (i + 5))) (LW_rg LW _)
    refine r_tableIn C (pc := 33) 1297 dL_law_33 36 1264 b36 (by decide) (by decide) (by decide +kernel) rfl ?_
    exact law_36 C LW qx rw q x X kx it F B cl bt i h1 h2 h3 h4 h5 r o0 o0' o1' eX eM (next hR2)
  | false =>
  refine r_tableOut C (pc := 33) 1360 dL_law_33 (by have q := sw_out (a := z) (lo := 0) 37 (by decide) (by decide) (by intro i hi; match i, hi with | 0, _ => exact b0 | 1, _ => exact b1 | 2, _ => exact b2 | 3, _ => exact b3 | 4, _ => exact b4 | 5, _ => exact b5 | 6, _ => exact b6 | 7, _ => exact b7 | 8, _ => exact b8 | 9, _ => exact b9 | 10, _ => exact b10 | 11, _ => exact b11 | 12, _ => exact b12 | 13, _ => exact b13 | 14, _ => exact b14 | 15, _ => exact b15 | 16, _ => exact b16 | 17, _ => exact b17 | 18, _ => exact b18 | 19, _ => exact b19 | 20, _ => exact b20 | 21, _ => exact b21 | 22, _ => exact b22 | 23, _ => exact b23 | 24, _ => exact b24 | 25, _ => exact b25 | 26, _ => exact b26 | 27, _ => exact b27 | 28, _ => exact b28 | 29, _ => exact b29 | 30, _ => exact b30 | 31, _ => exact b31 | 32, _ => exact b32 | 33, _ => exact b33 | 34, _ => exact b34 | 35, _ => exact b35 | 36, _ => exact b36 | n + 37, hi => exact absurd hi (by omega)); omega) rfl ?_
  exact next hR
theorem law_loop {g : XC} (C : XOk g cL_law RL lw_tbl room_1 4) {b L : Nat} {sc : Nat → Int} (LW : LawOk g b L sc) (hL : L ≤ 3072) (hF : ∀ ws', FinI g 600000 7302250 ws' (jz 1)) {qx rw q : Nat → Nat} : ∀ (n : Nat) (i : Int) {x : Nat → Int} {X : Nat → Nat → Int} {kx : Nat → Int64} {it : Nat → Nat → Int64} {F : Nat → Int} {B : Nat → Nat → Int} {cl bt : Nat → Int64}, Rel x X kx it F B cl bt → 0 ≤ i → i ≤ 4000 → (L : Int) - i < 6 * n → WW g 600000 7302250 (wLaw (xG g) qx rw q x X kx it F B cl bt) 18 [(0, .ref b), (1, .ref (qx 0)), (2, .ref (q 35)), (3, .int (jz i))] [] := by
  intro n
  induction n with
  | zero =>
    intro i x X kx it F B cl bt hR h0 h6 hn
    refine r_iload_n C (pc := 18) dL_law_18 rfl 3 rfl ?_
    refine r_aload_n C (pc := 19) dL_law_19 rfl 0 rfl ?_
    refine r_slen C LW (pc := 20) dL_law_20 ?_
    refine r_bipush C (pc := 21) dL_law_21 rfl ?_
    refine r_isub C (pc := 23) dL_law_23 ?_
    refine r_icmp_gt (K := fun (_ : Unit) => True) (t := some ()) (u := some ()) C (pc := 24) 1366 dL_law_24 rfl ⟨(), by split <;> rfl, trivial⟩ (fun c _ => ?_) (fun c _ => ?_)
    · refine r_iconst C (pc := 1366) dL_law_1366 ?_
      exact r_iret C (pc := 1367) dL_law_1367 (hF _)
    · rw [ltI_eq (by omega) (by omega) (by omega) (by omega)] at c
      have := of_decide_eq_false c
      omega
  | succ n ih =>
    intro i x X kx it F B cl bt hR h0 h6 hn
    refine r_iload_n C (pc := 18) dL_law_18 rfl 3 rfl ?_
    refine r_aload_n C (pc := 19) dL_law_19 rfl 0 rfl ?_
    refine r_slen C LW (pc := 20) dL_law_20 ?_
    refine r_bipush C (pc := 21) dL_law_21 rfl ?_
    refine r_isub C (pc := 23) dL_law_23 ?_
    refine r_icmp_gt (K := fun (_ : Unit) => True) (t := some ()) (u := some ()) C (pc := 24) 1366 dL_law_24 rfl ⟨(), by split <;> rfl, trivial⟩ (fun c _ => ?_) (fun c _ => ?_)
    · refine r_iconst C (pc := 1366) dL_law_1366 ?_
      exact r_iret C (pc := 1367) dL_law_1367 (hF _)
    · rw [ltI_eq (by omega) (by omega) (by omega) (by omega)] at c
      have hc := of_decide_eq_false c
      refine r_aload_n C (pc := 27) dL_law_27 rfl 0 rfl ?_
      refine r_iload_n C (pc := 28) dL_law_28 rfl 3 rfl ?_
      refine r_sld C LW (pc := 29) dL_law_29 (iin_t (by omega) (by omega) (by omega)) ?_
      refine r_bipush C (pc := 30) dL_law_30 rfl ?_
      refine r_iand C (pc := 32) dL_law_32 ?_
      refine law_sw C LW hR i (iin_t (by omega) (by omega) (by omega)) (iin_t (by omega) (by omega) (by omega)) (iin_t (by omega) (by omega) (by omega)) (iin_t (by omega) (by omega) (by omega)) (iin_t (by omega) (by omega) (by omega)) _ (fun hR2 => ?_)
      refine r_iinc C (pc := 1360) dL_law_1360 3 rfl (by decide) (L' := [(0, .ref b), (1, .ref (qx 0)), (2, .ref (q 35)), (3, .int (jz (i + 6)))]) rfl ?_
      refine r_goto C (pc := 1363) 18 dL_law_1363 rfl ?_
      exact ih (i + 6) hR2 (by omega) (by omega) (by omega)
