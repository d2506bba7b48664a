/-! PURE PART: the class's rounds of five -/
theorem five_X0 {a b c d h : Nat} {g nu : Nat → Int} {ks : Nat → Int64} {S : Nat → Prop} (tg : Tb g) (p : 0 < a ∧ a < 5 ∧ 0 < b ∧ b < 5 ∧ 0 < c ∧ c < 5 ∧ 0 < d ∧ d < 5) (q : a ≠ b ∧ a ≠ c ∧ a ≠ d ∧ b ≠ c ∧ b ≠ d ∧ c ≠ d) (hh : h < 37) (H : HL h ks S) (HS : ∀ v, S v → CSv 5 g v) : wp (f_X0_addRoundOfFive a b c d h 5 g nu ks) (fun o => ∃ (h' : Nat) (S' : Nat → Prop), o.1 = h' ∧ h' ≤ h + 1 ∧ HL h' o.2.2 S' ∧ (∀ v, S v → S' v) ∧ (∀ v, S' v → CSv 5 g v) ∧ ∀ f, CORN 5 g f → FIVE g f a b c d → S' (kcode 5 f)) := by
  unfold f_X0_addRoundOfFive
  refine w_gap (i := 0) tg (by omega) (fun r1 f1 l1 u1 => ?_)
  refine w_gap tg (by omega) (fun r2 f2 l2 u2 => ?_)
  refine w_gap tg (by omega) (fun r3 f3 l3 u3 => ?_)
  refine w_gap tg (by omega) (fun r4 f4 l4 u4 => ?_)
  refine w_gap (j := 0) tg (by omega) (fun r5 f5 l5 u5 => ?_)
  have i0 : ix 0 = 0 := rfl
  have ia : ix (a : Int) = a := ix_nat (by omega)
  have ib : ix (b : Int) = b := ix_nat (by omega)
  have ic : ix (c : Int) = c := ix_nat (by omega)
  have id' : ix (d : Int) = d := ix_nat (by omega)
  rw [i0, ia, ib, ic, id']
  refine w_l (fun v0 e0 => ?_)
  refine w_gi (by omega) ?_
  refine w_gi (by omega) ?_
  rw [up_eq]
  refine w_l (fun va ea => ?_)
  refine w_gi (by omega) ?_
  refine w_gi (by omega) ?_
  rw [up_eq]
  refine w_l (fun vb eb => ?_)
  refine w_gi (by omega) ?_
  refine w_gi (by omega) ?_
  rw [up_eq]
  refine w_l (fun vc ec => ?_)
  refine w_gi (by omega) ?_
  refine w_gi (by omega) ?_
  rw [up_eq]
  refine w_l (fun vd ed => ?_)
  refine w_gi (by omega) ?_
  generalize hF : up (up (up (up (up nu 0 v0) a va) b vb) c vc) d vd = F
  have F0 : F 0 = v0 := by
    rw [← hF, up_ne _ _ (by omega), up_ne _ _ (by omega), up_ne _ _ (by omega), up_ne _ _ (by omega), up_eq]
  have Fa : F a = va := by
    rw [← hF, up_ne _ _ (by omega), up_ne _ _ (by omega), up_ne _ _ (by omega), up_eq]
  have Fb : F b = vb := by
    rw [← hF, up_ne _ _ (by omega), up_ne _ _ (by omega), up_eq]
  have Fc : F c = vc := by
    rw [← hF, up_ne _ _ (by omega), up_eq]
  have Fd : F d = vd := by
    rw [← hF, up_eq]
  have all : ∀ x, x < 5 → x = 0 ∨ x = a ∨ x = b ∨ x = c ∨ x = d := fun x hx => by omega
  have FF : FR 5 F := by
    intro x hx
    rcases all x hx with rfl | rfl | rfl | rfl | rfl <;> omega
  have E : FIVE g F a b c d := by
    unfold FIVE TI
    rw [F0, Fa, Fb, Fc, Fd]
    omega
  have un : ∀ f, FIVE g f a b c d → ∀ x, x < 5 → F x = f x := by
    intro f E' x hx
    unfold FIVE TI at E E'
    have h0 : F 0 = f 0 := by omega
    have ha : F a = f a := by omega
    have hb : F b = f b := by omega
    have hc : F c = f c := by omega
    have hd : F d = f d := by omega
    rcases all x hx with rfl | rfl | rfl | rfl | rfl <;> assumption
  have no : (∀ f, CORN 5 g f → FIVE g f a b c d → False) → wp (some ((h : Int), F, ks)) (fun o => ∃ (h' : Nat) (S' : Nat → Prop), o.1 = h' ∧ h' ≤ h + 1 ∧ HL h' o.2.2 S' ∧ (∀ v, S v → S' v) ∧ (∀ v, S' v → CSv 5 g v) ∧ ∀ f, CORN 5 g f → FIVE g f a b c d → S' (kcode 5 f)) := fun z => w_s ⟨h, S, rfl, by omega, H, fun v q => q, HS, fun f c1 c2 => (z f c1 c2).elim⟩
  refine w_b1 (areN_X0 (n := 5) (by omega) FF) (fun r hr => ?_)
  refine w_j ?_
  refine w_bI hr (fun nn _ => no (fun f c1 c2 => nn (F80_c c1.1 (un f c2)))) (fun f8 _ => ?_)
  refine w_b1 (keep_X7 (n := 5) (by omega) tg FF) (fun r2 hr2 => ?_)
  refine w_bI hr2 (fun nn _ => no (fun f c1 c2 => nn ((KEEP_ag Ag_re (fun x hx => (un f c2 x hx).symm)).mp c1.2.1))) (fun K _ => ?_)
  refine w_b2 (addW (n := 5) (by omega) f8 hh H) (fun a' b' hab => ?_)
  obtain ⟨h', e1, e2, e3⟩ := hab
  refine w_s ⟨h', _, e1, e2, e3, fun v q => Or.inl q, fun v z => ?_, fun f c1 c2 => Or.inr (kcode_c (fun x hx => (un f c2 x hx).symm))⟩
  rcases z with z | z
  · exact HS v z
  · exact ⟨F, five_corn tg p q f8 K E, z⟩
