def va_AOA (ty : FieldType) (U : State) : Prop := (Cond.arrayOver (.array ty)).before #[] U = true
theorem va_AOA.of {ty : FieldType} {A : Array Value} {U : State} (h : (Cond.arrayOver (.array ty)).before A U = true) : va_AOA ty U := h
theorem va_AOA.use {ty : FieldType} {A : Array Value} {U : State} (h : va_AOA ty U) : (Cond.arrayOver (.array ty)).before A U = true := h
theorem aoA_spec {s : State} {t : FieldType} (h : va_AOA t s) :
    ∃ comp c k, s.vm.findClass (FieldType.array t).toString = some comp ∧ (s.vm.classes.findIdx? fun (x : Class) => match x.kind with | .array component _ => component == comp | _ => false) = some c ∧ s.vm.classes[c]? = some k ∧ k.kind = .array comp (.array t) ∧ s.vm.findClass ("[" ++ (FieldType.array t).toString) = some c := by
  unfold va_AOA at h
  simp only [Cond.before, Cond.holds, Cond.value, beq_iff_eq] at h
  cases hc : s.vm.findClass (FieldType.array t).toString with
  | none => simp [hc] at h
  | some comp =>
    simp only [hc, Option.bind_some, Option.bind_eq_some_iff, Option.map_eq_some_iff] at h
    obtain ⟨c, hi, k, hk, hb⟩ := h
    obtain ⟨hlt, hp, -⟩ := Array.findIdx?_eq_some_iff_getElem.mp hi
    have hkk : s.vm.classes[c] = k := (Array.getElem?_eq_some_iff.mp hk).2
    rw [hkk] at hp
    cases hkind : k.kind with
    | array component ty =>
      rw [hkind] at hb hp
      simp at hb hp
      exact ⟨comp, c, k, rfl, hi, hk, by rw [hkind, hp, hb.1], hb.2⟩
    | _ => rw [hkind] at hb; simp at hb
theorem va_AOA.moved {ty : FieldType} {u U : State} (hvm : u.vm.Alike U.vm) (h : va_AOA ty u) : va_AOA ty U := by
  obtain ⟨comp, c, k, h1, h2, h3, h4, h5⟩ := aoA_spec h
  obtain ⟨k', hk', he⟩ := hvm.2.2 _ _ h3
  have e1 := va_idx_bare U.vm comp
  have e2 := va_idx_bare u.vm comp
  have e3 : u.vm.bare = U.vm.bare := by first | exact hvm.bare_eq | exact hvm.bare_eq.symm
  rw [e3] at e2
  have hi := e1.symm.trans (e2.trans h2)
  have hkind : k'.kind = .array comp (.array ty) := by rw [he]; exact h4
  have f1 : U.vm.findClass (FieldType.array ty).toString = some comp := by rw [hvm.findClass]; exact h1
  have f2 : U.vm.findClass ("[" ++ (FieldType.array ty).toString) = some c := by rw [hvm.findClass]; exact h5
  unfold va_AOA Cond.before Cond.holds
  simp only [Cond.value]
  rw [f1, Option.bind_some]
  erw [hi]
  simp [hk', hkind, f2]
/-! ===== BEGIN new T[n][m]: the outer array a place, the inner ones among the pooled ===== -/
/-- f, but v at every address of l -/
def vr_up {α : Type} (f : Nat → α) (l : List Nat) (v : α) : Nat → α := fun a => if a ∈ l then v else f a
theorem vr_up_in {α : Type} {f : Nat → α} {l : List Nat} {v : α} {a : Nat} (h : a ∈ l) : vr_up f l v a = v := if_pos h
theorem vr_up_ne {α : Type} {f : Nat → α} {l : List Nat} {v : α} {a : Nat} (h : a ∉ l) : vr_up f l v a = f a := if_neg h
theorem vr_rows {L l : List Nat} {f : Nat → va_E} {e : va_E} (h : ∀ a, a ∈ l → a ∉ L) : va_pl L f ++ l.map (fun a => (a, e)) = va_pl (L ++ l) (vr_up f l e) := by
  unfold va_pl
  rw [List.map_append]
  congr 1
  · apply List.map_congr_left
    intro a ha
    rw [vr_up_ne (fun q => h a q ha)]
  · apply List.map_congr_left
    intro a ha
    rw [vr_up_in ha]
theorem vr_lay {X rows : va_W} {x : Nat × va_E} {pl : va_W} {D : va_G} {cl : List vw_C} {H : Heap} (hP : va_P D cl (((X ++ pl) ++ [x]) ++ rows) H) : va_P D cl ((X ++ [x]) ++ (pl ++ rows)) H := by
  rw [List.append_assoc (X ++ pl)] at hP
  have h := va_P.swap hP
  rw [← List.append_assoc X] at h
  have h2 := va_P.swap h
  rw [List.append_assoc (X ++ [x])] at h2
  exact h2
theorem vr_layD {X rows : va_W} {x : Nat × va_E} {pl : va_W} {A : Nat → Prop} (hD : va_D A (((X ++ pl) ++ [x]) ++ rows)) : va_D A ((X ++ [x]) ++ (pl ++ rows)) := by
  rw [List.append_assoc (X ++ pl)] at hD
  have h := va_D.swap hD
  rw [← List.append_assoc X] at h
  have h2 := va_D.swap h
  rw [List.append_assoc (X ++ [x])] at h2
  exact h2
theorem vr_outer (c : ClassId) (N h0 : Nat) : ∀ i : Nat, Jvm.Free.Multi.outerC c N h0 i = arrV c N (fun j => va_rf (if j < i then some (h0 + 1 + j) else none))
  | 0 => by
    show ({ cls := c, slots := Array.replicate N .null, vm := .none } : Cell) = _
    rw [arrV_new]
    refine congrArg (arrV c N) (funext fun j => ?_)
    simp [va_rf]
  | i + 1 => by
    show (Jvm.Free.Multi.outerC c N h0 i).setSlot i (.ref (h0 + 1 + i)) = _
    rw [vr_outer c N h0 i, arrV_store]
    refine congrArg (arrV c N) (funext fun j => ?_)
    by_cases e : j = i
    · subst e
      simp [updV, va_rf]
    · by_cases h : j < i
      · simp [updV, e, h, Nat.lt_succ_of_lt h]
      · simp [updV, e, h, show ¬ j < i + 1 by omega]
section VGM
variable {p : Program} {l : Launch} {e : Env} {R : Room} {s : State} {m : MethodId} {args : Array Value} {below : List Frame} {meth : Method} {c : Code} {H : Heap} {locs : List Loc} {cells slots : Nat} {Q : State → Prop}
variable {cc : ByteArray} {pc : Nat} {ls : Array Slot} {rest : List Value} {D : va_G} {cl : List vw_C} {A : Nat → Prop} {a : Nat} {tys : List (ClassId × FieldType)} {ws : va_W} {H0 : Heap}
theorem va_mna {X : va_W} {L : List Nat} {f : Nat → va_E} {cc : ByteArray} (hexec : p.tables.exec = Jvm.exec) (hb : c.code = cc) {own : String} {index : Nat} {ty : FieldType} {cy : ClassId} (hown : s.vm.findClass own = some m.cls) (hclink : (Cond.classLink own index ("[" ++ (FieldType.array ty).toString)).before args s = true) (hover : va_AOA ty s) (harr : (Cond.arrayClass ty).before args s = true) (hcy : s.vm.findClass (FieldType.array ty).toString = some cy)
    (hK : va_K D cl tys s) (hP : va_P D cl (X ++ va_pl L f) H) (hD : va_D A (X ++ va_pl L f)) (hS : va_S A H0 H locs) (hA : ∀ q, H0.size ≤ q → A q) {n k : Int32} {N' K' : Nat} {z : vp_A} (hn : ¬ n < 0) (hk : ¬ k < 0) (hN : n.toNatClampNeg = N') (hM : k.toNatClampNeg = K')
    (hb1 : N' * 4 ≤ 536870912) (hb2 : K' * componentBytes ty ≤ 536870912) (hb3 : K' ≤ 536870912) (hdf : fits ty (defaultValue ty) = true) (hdd : (defaultValue ty).isDefault = true) (hcells : cells + (1 + N') ≤ R.cells) (hslots : slots + (N' + N' * K') ≤ R.slots) (hz : ∀ c : ClassId, Jvm.Free.Multi.innerC c K' (defaultValue ty) = vp_cell c z) (hdg : decode cc pc = .ok (.multianewarray index 2, 4))
    (kk : ∀ (q : Nat) (r : Nat → Nat) (cA : ClassId) (H1 : Heap), (∀ i j : Nat, i < N' → j < N' → r i = r j → i = j) → (∀ i : Nat, i < N' → r i ∉ L) → va_K D cl (tys ++ [(cA, .array ty)]) s →
      va_P D cl ((X ++ [(q, .inl (cA, N', .inr (.inr (.inr (.inr (fun i => if i < N' then some (r i) else none))))))]) ++ va_pl (L ++ (List.range N').map r) (vr_up f ((List.range N').map r) (.inl (cy, z)))) H1 → va_D A ((X ++ [(q, .inl (cA, N', .inr (.inr (.inr (.inr (fun i => if i < N' then some (r i) else none))))))]) ++ va_pl (L ++ (List.range N').map r) (vr_up f ((List.range N').map r) (.inl (cy, z)))) → va_S A H0 H1 locs →
      W p l e R s m args below meth c H1 locs (cells + 1 + N') (slots + N' + N' * K') Q (F0 m (pc + 4) ls (.ref q :: rest))) : W p l e R s m args below meth c H locs cells slots Q (F0 m pc ls (.int k :: .int n :: rest)) := by
  subst hN
  subst hM
  intro T hT Xs
  obtain ⟨vm₁, cA, comp, -, fA, fC, hO, -, X', step⟩ := Xs.multianewarray2F hexec hown hclink (va_AOA.use hover) harr (g := F0 m pc ls (.int k :: .int n :: rest)) rfl (by rw [hb]; exact hdg) rfl hn hk hb1 hb2 hb3 hdf hdd hcells hslots
  have ec : some cy = some comp := hcy.symm.trans fC
  cases ec
  generalize hF : Jvm.Free.Multi.fill (T.setVm vm₁) cA cy n.toNatClampNeg k.toNatClampNeg (defaultValue ty) n.toNatClampNeg = F at X' step
  have hTh : (T.setVm vm₁).heap = H := hT
  obtain ⟨f1, f2, -, -⟩ := Jvm.Free.Multi.fill_facts (T.setVm vm₁) cA cy n.toNatClampNeg k.toNatClampNeg (defaultValue ty) n.toNatClampNeg
  rw [hF, hTh] at f1 f2
  have hold : ∀ x : Nat, x < H.size → F.heap[x]? = H[x]? := fun x hx => by
    have := Jvm.Free.Multi.fill_old (T.setVm vm₁) cA cy n.toNatClampNeg k.toNatClampNeg (defaultValue ty) (a := x) (by rw [hTh]; exact hx) n.toNatClampNeg
    rw [hF, hTh] at this
    exact this
  have hrow : ∀ j : Nat, j < n.toNatClampNeg → F.heap[H.size + 1 + j]? = some (vp_cell cy z) := fun j hj => by
    have := Jvm.Free.Multi.fill_inner (T.setVm vm₁) cA cy n.toNatClampNeg k.toNatClampNeg (defaultValue ty) n.toNatClampNeg j hj
    rw [hF, hTh, hz] at this
    exact this
  have hout : Jvm.Free.Multi.outerC cA n.toNatClampNeg H.size n.toNatClampNeg = vp_cell cA (n.toNatClampNeg, .inr (.inr (.inr (.inr (fun i => if i < n.toNatClampNeg then some (H.size + 1 + i) else none))))) := by
    rw [vp_cell_q]
    exact vr_outer cA n.toNatClampNeg H.size n.toNatClampNeg
  rw [hout] at f2
  have hlt : ∀ a, a ∈ L → a < H.size := fun a ha => by
    obtain ⟨k9, hk9⟩ := va_pl_get (X := X) (f := f) ha
    exact (hP k9 _ hk9).lt
  have hnl : ∀ i : Nat, i < n.toNatClampNeg → H.size + 1 + i ∉ L := fun i _ h => by
    have := hlt _ h
    omega
  have hnm : ∀ a, a ∈ (List.range n.toNatClampNeg).map (fun i => H.size + 1 + i) → a ∉ L := fun a ha h => by
    obtain ⟨i, -, rfl⟩ := List.mem_map.mp ha
    have := hlt _ h
    omega
  have hP0 : va_P D cl (X ++ va_pl L f) F.heap := hP.kept (fun k9 x hx => hold x.1 ((hP k9 x hx).lt))
  have hP1 : va_P D cl ((X ++ va_pl L f) ++ [(H.size, .inl (cA, n.toNatClampNeg, .inr (.inr (.inr (.inr (fun i => if i < n.toNatClampNeg then some (H.size + 1 + i) else none))))))]) F.heap := hP0.app (fun k9 x hx => by
    have h0 : k9 < 1 := (List.getElem?_eq_some_iff.mp hx).1
    rw [show k9 = 0 by omega] at hx
    cases hx
    exact f2)
  have hP2 : va_P D cl (((X ++ va_pl L f) ++ [(H.size, .inl (cA, n.toNatClampNeg, .inr (.inr (.inr (.inr (fun i => if i < n.toNatClampNeg then some (H.size + 1 + i) else none))))))]) ++ ((List.range n.toNatClampNeg).map (fun i => H.size + 1 + i)).map (fun a => (a, .inl (cy, z)))) F.heap := hP1.app (fun k9 x hx => by
    obtain ⟨a, ha, rfl⟩ := List.mem_map.mp (List.mem_of_getElem? hx)
    obtain ⟨i, hi, rfl⟩ := List.mem_map.mp ha
    exact hrow i (List.mem_range.mp hi))
  have hD2 : va_D A (((X ++ va_pl L f) ++ [(H.size, .inl (cA, n.toNatClampNeg, .inr (.inr (.inr (.inr (fun i => if i < n.toNatClampNeg then some (H.size + 1 + i) else none))))))]) ++ ((List.range n.toNatClampNeg).map (fun i => H.size + 1 + i)).map (fun a => (a, .inl (cy, z)))) := by
    have hD1 := hD.push (e := .inl (cA, n.toNatClampNeg, .inr (.inr (.inr (.inr (fun i => if i < n.toNatClampNeg then some (H.size + 1 + i) else none)))))) hP rfl (hA _ hS.1)
    generalize hW1 : (X ++ va_pl L f) ++ [(H.size, .inl (cA, n.toNatClampNeg, .inr (.inr (.inr (.inr (fun i => if i < n.toNatClampNeg then some (H.size + 1 + i) else none))))))] = W1 at hD1 hP1 ⊢
    have hle : ∀ (k9 : Nat) (x : Nat × va_E), W1[k9]? = some x → x.1 ≤ H.size := fun k9 x hx => by
      rw [← hW1] at hx
      by_cases hl : k9 < (X ++ va_pl L f).length
      · rw [List.getElem?_append_left hl] at hx
        exact Nat.le_of_lt ((hP k9 x hx).lt)
      · rw [List.getElem?_append_right (by omega)] at hx
        have h0 : k9 - (X ++ va_pl L f).length < 1 := (List.getElem?_eq_some_iff.mp hx).1
        rw [show k9 - (X ++ va_pl L f).length = 0 by omega] at hx
        cases hx
        exact Nat.le_refl _
    have hr : ∀ (k9 : Nat) (x : Nat × va_E), (((List.range n.toNatClampNeg).map (fun i => H.size + 1 + i)).map (fun a => ((a, .inl (cy, z)) : Nat × va_E)))[k9]? = some x → x.1 = H.size + 1 + k9 := fun k9 x hx => by
      rw [List.getElem?_map, List.getElem?_map] at hx
      by_cases h9 : k9 < n.toNatClampNeg
      · rw [List.getElem?_range h9] at hx
        cases hx
        rfl
      · have hn0 : (List.range n.toNatClampNeg)[k9]? = none := List.getElem?_eq_none (by rw [List.length_range]; omega)
        rw [hn0] at hx
        cases hx
    refine ⟨fun i j x y hi hj hxy => ?_, fun k9 x hx => ?_⟩
    · by_cases h1 : i < W1.length <;> by_cases h2 : j < W1.length
      · rw [List.getElem?_append_left h1] at hi
        rw [List.getElem?_append_left h2] at hj
        exact hD1.1 i j x y hi hj hxy
      · rw [List.getElem?_append_left h1] at hi
        rw [List.getElem?_append_right (by omega)] at hj
        have := hle _ _ hi
        have := hr _ _ hj
        omega
      · rw [List.getElem?_append_right (by omega)] at hi
        rw [List.getElem?_append_left h2] at hj
        have := hle _ _ hj
        have := hr _ _ hi
        omega
      · rw [List.getElem?_append_right (by omega)] at hi hj
        have := hr _ _ hi
        have := hr _ _ hj
        omega
    · by_cases h1 : k9 < W1.length
      · rw [List.getElem?_append_left h1] at hx
        exact hD1.2 k9 x hx
      · rw [List.getElem?_append_right (by omega)] at hx
        have := hr _ _ hx
        exact hA _ (by have := hS.1; omega)
  have hAr : ArrOfT s cA (.array ty) := fun N9 z9 => by
    obtain ⟨-, k9, hk9, cm9, hkk9⟩ := (hO 0 0 0).1
    exact ⟨(fun q hq => by cases hq), k9, hk9, cm9, hkk9⟩
  have hK2 : va_K D cl (tys ++ [(cA, .array ty)]) s := ⟨hK.1, fun k9 x hx => by
    by_cases hl : k9 < tys.length
    · rw [List.getElem?_append_left hl] at hx
      exact hK.2 k9 x hx
    · rw [List.getElem?_append_right (by omega)] at hx
      have h0 : k9 - tys.length < 1 := (List.getElem?_eq_some_iff.mp hx).1
      rw [show k9 - tys.length = 0 by omega] at hx
      cases hx
      exact ⟨hAr, fA⟩⟩
  obtain ⟨t, a1, b1⟩ := kk H.size (fun i => H.size + 1 + i) cA F.heap (fun i j _ _ h => by have h9 : H.size + 1 + i = H.size + 1 + j := h; omega) hnl hK2 (by rw [← vr_rows hnm]; exact vr_lay hP2) (by rw [← vr_rows hnm]; exact vr_layD hD2) ⟨by rw [f1]; have := hS.1; omega, fun x h1 h2 => (hold x (Nat.lt_of_lt_of_le h1 hS.1)).trans (hS.2.1 x h1 h2), hS.2.2⟩ F rfl X'
  refine ⟨t, step t ?_, b1⟩
  have e : T.heap.size = H.size := by rw [hT]
  rw [e]
  exact a1
end VGM
section INITROWS
variable {g : XC} {k n : Nat} {ws ws' : va_W} {pc : Nat} {L : List (Nat × Value)} {st : List Value} {cc : ByteArray} {own : String} {Ts : List Cond} {R0 : Room} {N0 : Nat}
theorem r_obj (C : XOk g cc own Ts R0 N0) {index : Nat} {a : Nat} (d : decode cc pc = .ok (.invokespecial index, 3)) (w1 : Cond.methodLink own index Lib.objectInit ∈ Ts) (w2 : Cond.instanceMethod Lib.objectInit ∈ Ts) (w3 : Cond.code Lib.objectInit ⟨#[0xb1]⟩ 1 none ∈ Ts) (hf : 1 ≤ R0.frames) (hr : (st.map fun v => v.category).sum + 12 ≤ R0.locals) (kk : WW g k n ws (pc + 3) L st) : WW g k n ws pc L (.ref a :: st) := fun H locs ls hP hD hS hl => by
  obtain ⟨h1, h2, h3, h4, h5, h6, h7, h8, h9⟩ := C
  exact W.objInit h1 h2 h4 (h5 _ w1) (h5 _ w2) (h5 _ w3) rfl (hl.1.trans h3.symm) rfl d (by rw [h8]; exact hf) (by rw [h8]; show 2 * 0 + _ + 12 ≤ _; omega) (kk H locs ls hP hD hS hl)
theorem r_new (C : XOk g cc own Ts R0 N0) {index : Nat} (d : decode cc pc = .ok (.new index, 3)) {Cn : String} {T : u_T} {N : Nat} {ci : Nat} (hc : vwCl[ci]? = some (Cn, T, N)) (hin : ∀ w ∈ u_ws Cn T N, w ∈ Ts) (tys : Nat → FieldType) (hty : ∀ k, k < N → parseFieldDescriptor (T k).2.2.1 = some (tys k)) (w1 : Cond.classLink own index Cn ∈ Ts) (w2 : Cond.instantiable Cn N ∈ Ts) (w3 : Cond.initialized Cn ∈ Ts) {fs : List Value} (hfs : ∀ j, j < N → defaultValue (tys j) = vp_V fs j) (hk : k + 1 ≤ R0.cells ∧ n + N ≤ R0.slots) (kk : ∀ q, WW g (k + 1) (n + N) (ws ++ [(q, .inr (ci, fs))]) (pc + 3) L (.ref q :: st)) : WW g k n ws pc L st := fun H locs ls hP hD hS hl => by
  obtain ⟨h1, h2, h3, h4, h5, h6, h7, h8, h9⟩ := C
  subst h8
  exact va_new h1 h2 h5 hin tys hty h4 (h5 _ w1) (h5 _ w2) (h5 _ w3) h6 hP hD hS h7 hc hfs hk.1 hk.2 d (fun q H1 hP hD hS => kk q H1 locs ls hP hD hS hl)
theorem r_newI (C : XOk g cc own Ts R0 N0) {z : Int} (N : Nat) (d : decode cc pc = .ok (.newarray .int, 2)) (w1 : Cond.arrayClass .int ∈ Ts) (h0 : ¬ jz z < 0) (hN : (jz z).toNatClampNeg = N) (hb : N * componentBytes .int ≤ 536870912) (hk : k + 1 ≤ R0.cells ∧ n + N ≤ R0.slots) (kk : ∀ q, WW g (k + 1) (n + N) (ws ++ [(q, aI (xG g) N (fun _ => 0))]) (pc + 2) L (.ref q :: st)) : WW g k n ws pc L (.int (jz z) :: st) := fun H locs ls hP hD hS hl => by
  obtain ⟨h1, h2, h3, h4, h5, h6, h7, h8, h9⟩ := C
  subst h8
  refine va_newa (atype := .int) (ty := .int) (a0 := (N, .inl (jA (fun _ => 0)))) h1 h2 (h5 _ w1) rfl h6 hP hD hS h7 (fun cA => rfl) h0 hN hb hk.1 hk.2 d (fun q cA H1 hK hP hD hS => ?_)
  have e1 : (xs g).vm.findClass "[I" = some cA := (hK.2 4 _ rfl).2
  have e2 : (xs g).vm.findClass "[I" = some _ := (h6.2 0 _ rfl).2
  have e3 := e1.symm.trans e2
  cases e3
  exact kk q H1 locs ls hP hD hS hl
theorem r_newB (C : XOk g cc own Ts R0 N0) {z : Int} (N : Nat) (d : decode cc pc = .ok (.newarray .byte, 2)) (w1 : Cond.arrayClass .byte ∈ Ts) (h0 : ¬ jz z < 0) (hN : (jz z).toNatClampNeg = N) (hb : N * componentBytes .byte ≤ 536870912) (hk : k + 1 ≤ R0.cells ∧ n + N ≤ R0.slots) (kk : ∀ q, WW g (k + 1) (n + N) (ws ++ [(q, aB (xG g) N (fun _ => 0))]) (pc + 2) L (.ref q :: st)) : WW g k n ws pc L (.int (jz z) :: st) := fun H locs ls hP hD hS hl => by
  obtain ⟨h1, h2, h3, h4, h5, h6, h7, h8, h9⟩ := C
  subst h8
  refine va_newa (atype := .byte) (ty := .byte) (a0 := (N, .inl (jA (fun _ => 0)))) h1 h2 (h5 _ w1) rfl h6 hP hD hS h7 (fun cA => rfl) h0 hN hb hk.1 hk.2 d (fun q cA H1 hK hP hD hS => ?_)
  have e1 : (xs g).vm.findClass "[B" = some cA := (hK.2 4 _ rfl).2
  have e2 : (xs g).vm.findClass "[B" = some _ := (h6.2 2 _ rfl).2
  have e3 := e1.symm.trans e2
  cases e3
  exact kk q H1 locs ls hP hD hS hl
theorem r_newJ (C : XOk g cc own Ts R0 N0) {z : Int} (N : Nat) (d : decode cc pc = .ok (.newarray .long, 2)) (w1 : Cond.arrayClass .long ∈ Ts) (h0 : ¬ jz z < 0) (hN : (jz z).toNatClampNeg = N) (hb : N * componentBytes .long ≤ 536870912) (hk : k + 1 ≤ R0.cells ∧ n + N ≤ R0.slots) (kk : ∀ q, WW g (k + 1) (n + N) (ws ++ [(q, aJ (xG g) N (fun _ => 0))]) (pc + 2) L (.ref q :: st)) : WW g k n ws pc L (.int (jz z) :: st) := fun H locs ls hP hD hS hl => by
  obtain ⟨h1, h2, h3, h4, h5, h6, h7, h8, h9⟩ := C
  subst h8
  refine va_newa (atype := .long) (ty := .long) (a0 := (N, .inr (.inl (fun _ => 0)))) h1 h2 (h5 _ w1) rfl h6 hP hD hS h7 (fun cA => rfl) h0 hN hb hk.1 hk.2 d (fun q cA H1 hK hP hD hS => ?_)
  have e1 : (xs g).vm.findClass "[J" = some cA := (hK.2 4 _ rfl).2
  have e2 : (xs g).vm.findClass "[J" = some _ := (h6.2 1 _ rfl).2
  have e3 := e1.symm.trans e2
  cases e3
  exact kk q H1 locs ls hP hD hS hl
theorem cellL (c : ClassId) (r : Nat → Nat) : vp_cell c (6, .inr (.inr (.inr (.inr (fun i => if i < 6 then some (r i) else none))))) = vp_cell c (6, .inr (.inr (.inr (.inr (fun i => some (r i)))))) := by
  rw [vp_cell_q, vp_cell_q]
  unfold arrV
  congr 2
  funext j
  simp [j.2]
theorem plR (r : Nat → Nat) (f : Nat → va_E) (e : va_E) : va_pl ([] ++ (List.range 6).map r) (vr_up f ((List.range 6).map r) e) = (List.range 6).map (fun i => (r i, e)) := by
  unfold va_pl
  rw [List.nil_append, List.map_map]
  refine List.map_congr_left (fun i hi => ?_)
  show (r i, vr_up f ((List.range 6).map r) e (r i)) = (r i, e)
  rw [vr_up_in (List.mem_map_of_mem hi)]
theorem r_mna (C : XOk g cc own Ts R0 N0) (AO : va_AOA .long (xs g)) {index : Nat} (d : decode cc pc = .ok (.multianewarray index 2, 4)) (w1 : Cond.classLink own index "[[J" ∈ Ts) (w2 : Cond.arrayClass .long ∈ Ts) (hk : k + (1 + 6) ≤ R0.cells ∧ n + (6 + 6 * 60) ≤ R0.slots) (kk : ∀ q r, WW g (k + 1 + 6) (n + 6 + 6 * 60) (ws ++ [(q, aL (xG g) 6 r), (r 0, aJ (xG g) 60 (fun _ => 0)), (r 1, aJ (xG g) 60 (fun _ => 0)), (r 2, aJ (xG g) 60 (fun _ => 0)), (r 3, aJ (xG g) 60 (fun _ => 0)), (r 4, aJ (xG g) 60 (fun _ => 0)), (r 5, aJ (xG g) 60 (fun _ => 0))]) (pc + 4) L (.ref q :: st)) : WW g k n ws pc L (.int (jz 60) :: .int (jz 6) :: st) := fun H locs ls hP hD hS hl => by
  obtain ⟨h1, h2, h3, h4, h5, h6, h7, h8, h9⟩ := C
  subst h8
  have hP0 : va_P (xG g).1 vwCl (ws ++ va_pl [] (fun _ => .inr (0, []))) H := by simpa [va_pl] using hP
  have hD0 : va_D (xA g) (ws ++ va_pl [] (fun _ => .inr (0, []))) := by simpa [va_pl] using hD
  refine va_mna (ty := .long) (cy := (xG g).2.2.1) (N' := 6) (K' := 60) (z := (60, .inr (.inl (fun _ => 0)))) h1 h2 h4 (h5 _ w1) AO (h5 _ w2) ((h6.2 1 _ rfl).2) h6 hP0 hD0 hS h7 (by decide) (by decide) (by decide) (by decide) (by decide) (by decide) (by decide) rfl rfl hk.1 hk.2 (fun c => ?_) d (fun q r cA H1 hinj hnl hK hP hD hS => ?_)
  · show _ = vp_cell c (60, .inr (.inl (fun _ => 0)))
    rw [vp_cell_l, ← arrV_new]
    rfl
  · have e1 : (xs g).vm.findClass "[[J" = some cA := (hK.2 4 _ rfl).2
    have e2 : (xs g).vm.findClass "[[J" = some _ := (h6.2 3 _ rfl).2
    have e3 := e1.symm.trans e2
    cases e3
    rw [plR, List.append_assoc] at hP hD
    refine kk q r H1 locs ls (fun j x hx => ?_) (va_D_adr hD (by simp [List.range, List.range.loop])) hS hl
    by_cases hj : j = ws.length
    · subst hj
      simp at hx
      subst hx
      have h8 := hP ws.length (q, .inl ((xG g).2.2.2.2, 6, .inr (.inr (.inr (.inr (fun i => if i < 6 then some (r i) else none)))))) (by simp)
      show H1[q]? = some (vp_cell _ _)
      rw [← cellL]
      exact h8
    · refine hP j x ?_
      rcases Nat.lt_or_ge j ws.length with h | h
      · rw [List.getElem?_append_left h] at hx ⊢
        exact hx
      · rw [List.getElem?_append_right h] at hx ⊢
        obtain ⟨i, hi⟩ : ∃ i, j - ws.length = i + 1 := ⟨j - ws.length - 1, by omega⟩
        rw [hi] at hx ⊢
        simpa [List.range, List.range.loop] using hx
theorem r_iastT (C : XOk g cc own Ts R0 N0) {a : Nat} {i z : Int} {N : Nat} {f : Nat → Int} (d : decode cc pc = .ok (.iastore, 1)) (hin : iin i N = true) (q0 : Nat) (ha : ws[q0]? = some (a, aI (xG g) N f)) (hw : ws.set q0 (a, aI (xG g) N (up f (ix i) z)) = ws') (kk : WW g k n ws' (pc + 1) L st) : WW g k n ws pc L (.int (jz z) :: .int (jz i) :: .ref a :: st) := r_iast (K := fun (_ : Unit) => True) (t := some ()) C d ⟨(), by rw [hin]; rfl, trivial⟩ q0 ha hw (fun _ => kk)
theorem r_putzT (C : XOk g cc own Ts R0 N0) {index : Nat} (d : decode cc pc = .ok (.putfield index, 3)) {ci f : Nat} (G : PF Ts own index ci f .boolean false) {z : Int} (hz : isB z = true) (q0 : Nat) {a : Nat} {fs : List Value} (he : ws[q0]? = some (a, .inr (ci, fs))) (hf : f < fs.length) (hw : ws.set q0 (a, .inr (ci, fs.set f (.int (jz z)))) = ws') (kk : WW g k n ws' (pc + 3) L st) : WW g k n ws pc L (.int (jz z) :: .ref a :: st) := r_putz (K := fun (_ : Unit) => True) (t := some ()) C d G ⟨(), by rw [hz]; rfl, trivial⟩ q0 he hf hw (fun _ => kk)
theorem r_geF (C : XOk g cc own Ts R0 N0) {a b : Int} {off : Int} (tgt : Nat) (d : decode cc pc = .ok (.if_icmp .ge off, 3)) (ht : (pc : Int) + off = (tgt : Int)) (hc : ltI a b = true) (kk : WW g k n ws (pc + 3) L st) : WW g k n ws pc L (.int (jz b) :: .int (jz a) :: st) := r_icmp_ge (K := fun (_ : Unit) => True) (t := some ()) (u := some ()) C tgt d ht ⟨(), by split <;> rfl, trivial⟩ (fun h _ => absurd (h.symm.trans hc) (by decide)) (fun _ _ => kk)
theorem r_geT (C : XOk g cc own Ts R0 N0) {a b : Int} {off : Int} (tgt : Nat) (d : decode cc pc = .ok (.if_icmp .ge off, 3)) (ht : (pc : Int) + off = (tgt : Int)) (hc : ltI a b = false) (kk : WW g k n ws tgt L st) : WW g k n ws pc L (.int (jz b) :: .int (jz a) :: st) := r_icmp_ge (K := fun (_ : Unit) => True) (t := some ()) (u := some ()) C tgt d ht ⟨(), by split <;> rfl, trivial⟩ (fun _ _ => kk) (fun h _ => absurd (h.symm.trans hc) (by decide))
theorem r_ws {w2 : va_W} (h : ws = w2) (kk : WW g k n w2 pc L st) : WW g k n ws pc L st := h ▸ kk
end INITROWS
/-! constructors: they make cells, at addresses u.1 0, u.1 1, .., the rows of a table of rows at u.2 0, .. -/
abbrev uA : Type := (Nat → Nat) × (Nat → Nat)
def CTc (l : Launch) (y : MethodName) (wsY : List Cond) (rm : Room) (G : gG) (w : va_W) (av : List Value) (mc ms : Nat) (w' : uA → va_W) : Prop := ∀ sz : Nat, Met l y wsY rm (va_Pc av (fun U => PcW G w sz U ∧ va_AOA .long U)) (va_Qv (fun (_ : uA) => True) (fun u t => va_P G.1 vwCl (w' u) t.heap ∧ va_D (va_A w sz) (w' u)) (va_A w sz)) mc ms (va_A w sz)
theorem blindC {av : List Value} {G : gG} {w : va_W} {sz : Nat} : FrameBlind (va_Pc av (fun U => PcW G w sz U ∧ va_AOA .long U)) := fun a U g mk q => by
  obtain ⟨q0, ⟨q1, qP, qK, qD⟩, qO⟩ := q
  exact ⟨q0, ⟨q1, qP, va_K.moved (u := U) (U := U.calling g mk a) (Vm.Alike.refl U.vm) qK, qD⟩, va_AOA.moved (u := U) (U := U.calling g mk a) (Vm.Alike.refl U.vm) qO⟩
theorem CTc_of {l : Launch} {y : MethodName} {wsY wsY' : List Cond} {rm : Room} {G : gG} {w : va_W} {w' : uA → va_W} {av : List Value} {cc : ByteArray} {nL : Nat} {own : String} {mc ms : Nat} (hy : plainName y.cls = true) (hw : wsY = Cond.code y cc nL none :: wsY') (hcls : y.cls = own) (hnm : y.name = "<init>") (hargs : (lg_sl av).length ≤ nL) (body : ∀ g, XOk g cc own wsY rm nL → xG g = G → xl g = l → (xM g).name = "<init>" → va_AOA .long (xs g) → (∀ u, FinV g mc ms (w' u)) → WW g 0 0 w 0 (lv_args 0 av) []) : CTc l y wsY rm G w av mc ms w' := by
  intro sz
  refine Met.ofW (cc := cc) (maxL := nL) (ret := none) hy hw ?_
  intro p e s m args below meth c s₁ B hml hv
  obtain ⟨rfl, ⟨hsz, hP, hK, hD0⟩, hO⟩ := hv
  subst hsz
  have hx := B.exec
  have hts := atoms_spec (ws := wsY) B.pre
  have hown : s.vm.findClass own = some m.cls := by
    have h := findClass_of_methodNamed B.named
    rw [hcls] at h
    exact h
  have hlocks := B.notSynchronized
  have hin : meth.name = "<init>" := (name_of_methodNamed B.named B.method).1.trans hnm
  have hD := hD0.self (sz := s.heap.size)
  have hl := lv_entry av (n := nL) hargs
  rw [lg_entry_eq]
  refine body ((p, l, e, (headSpec wsY rm).room, s, m), (av.toArray, below, meth, c, _), (G, va_A w s.heap.size, nL)) ⟨hx, B.bytes, hml, hown, hts, hK, fun q h => Or.inr h, rfl, rfl⟩ rfl rfl hin hO ?_ s.heap [] _ hP hD va_S.rf hl
  intro u cc' hcc pc L hd H locs ls hP hD hS hl
  exact W.vret hx hcc B.returns (fun t ht hW => ⟨⟨u, rfl, trivial, by rw [ht]; exact hP, hD⟩, hS.F ht⟩) hS.2.2 hd
theorem b_cI {g : XC} {k n : Nat} {ws wc wr : va_W} {w' : uA → va_W} {pc : Nat} {L : List (Nat × Value)} {st rest : List Value} {cc : ByteArray} {own : String} {Ts : List Cond} {R0 : Room} {N0 : Nat} {y : MethodName} {wsY wsY' : List Cond} {rm : Room} {bytes : ByteArray} {maxL index : Nat} {b : Nat} {As : List Value} {mc ms : Nat} (C : XOk g cc own Ts R0 N0) (AO : va_AOA .long (xs g)) (d : decode cc pc = .ok (.invokespecial index, 3)) (hM : CTc (xl g) y wsY rm (xG g) wc (.ref b :: As) mc ms w') (hw : wsY = Cond.code y bytes maxL none :: wsY') (hG : GoodIn Ts wsY) (w1 : Cond.initialized y.cls ∈ Ts) (w2 : Cond.methodLink own index y ∈ Ts) (w3 : Cond.instanceMethod y ∈ Ts) (hnm : y.name = "<init>") (hz : rm.cells = mc ∧ rm.slots = ms) (nA : Nat) (hd : y.cls ≠ "java/lang/invoke/MethodHandle" ∧ y.cls ≠ "java/lang/invoke/VarHandle" ∧ (parseMethodDescriptor y.desc).map (fun d => d.parameters.length) = some nA) (hR : rm.frames + 1 ≤ R0.frames ∧ 8 + (maxL + 11) + rm.locals ≤ R0.locals) (hAs : As.length = nA) (isC isR : List Nat) (hC : isC.map (fun i => ws[i]?) = wc.map some) (hRr : isR.map (fun i => ws[i]?) = wr.map some) (hn1 : va_nd isC = true) (hn2 : va_nd isR = true) (hdis : ∀ i ∈ isR, i ∉ isC) (hst : st = As.reverse ++ .ref b :: rest) (hrest : (rest.map fun v => v.category).sum ≤ 8) (hkc : k + mc ≤ R0.cells ∧ n + ms ≤ R0.slots) (kk : ∀ u, WW g (k + mc) (n + ms) (wr ++ w' u) (pc + 3) L rest) : WW g k n ws pc L st := fun H locs ls hP hD hS hl => by
  obtain ⟨h1, h2, h3, h4, h5, h6, h7, h8, h9⟩ := C
  subst h8
  have hPc := va_P_map hP isC hC
  have hDc := hD.sub isC hn1 hC
  have hFc := va_free hD hS h7 isC hC
  refine va_callv (va_runI (As := As) (rest := rest) ⟨h1, h2, h3, h4, h5⟩ (hM H.size) (cwI nA h5 hG hw hz.1 hz.2 (h5 _ w1) (h5 _ w2) (h5 _ w3) hnm hd hR) ⟨blindC, fun U hU hW => ⟨rfl, ⟨by rw [hU], by rw [hU]; exact hPc, va_K.moved hW.alike h6, hDc.weaken (fun _ _ _ _ => trivial)⟩, va_AOA.moved hW.alike AO⟩⟩ rfl hAs hl.1 hst (lv_room hrest) d hkc) hS (fun q _ h => hFc q h) hFc (fun u t H1 locs1 ht hvm hw' hB hz1 hk1 hS' => ?_)
  obtain ⟨hP1, hD1⟩ := hB
  rw [ht] at hP1
  obtain ⟨hP2, hD2⟩ := va_join hP hD isC isR hC hRr hn2 hdis hk1 hFc hP1 hD1
  exact kk u H1 locs1 ls hP2 hD2 hS' hl
