/-! the reference enters a depth, and goes on from there -/
section DF
variable {L : Nat} {xs : Nat → Int32} {fv : Value} {d : Nat} {r : Nat} {rr : Option Nat} {I : Nat → Nat → Int32} {J : Nat → Nat → Int64} {P : Option Value → aH → Prop}
variable {W : Wd} {F : Nat} {S : Sc} {R : Ru} {q : Nat} {I0 : Nat → Nat → Int32} {J0 : Nat → Nat → Int64}
theorem nbeq {a b : Nat} (h : a ≠ b) : Nat.beq a b = false := by
  cases hb : Nat.beq a b with
  | false => rfl
  | true => exact absurd (Nat.eq_of_beq_eq_true hb) h
theorem up2_42 {α : Type} {f : Nat → Nat → α} {i k k' : Nat} {v : α} (h : k' ≠ k) : up2 f i k v i k' = f i k' := by rw [up2_at, if_neg h]
/-- a depth is entered: what is picked there stands, but at the end -/
def pkd (W : Wd) (R : Ru) (S : Sc) (hr : Nat) (I : Nat → Nat → Int32) (d H : Nat) (now : Option Nat) (w : Nat) (x : Int32) : Prop := I 101 d = nI 0 ∧ (d < H → I 99 d = oI (pkW W R S (hr + d) now w (bt x)) ∧ I 100 d = nI (trW W (hr + d) w (pkW W R S (hr + d) now w (bt x))))
set_option maxHeartbeats 4000000 in
theorem cl_enter {dd H hr w : Nat} {now : Option Nat} {x : Int32} {mi wg : Int} {d' r' h' : Int32} (hf : fr I0 I) (hW : rwl W F I0) (hS : rsc S I0) (hR : rrl R q I0) (hhr : I0 77 6 = nI hr) (hr1 : hr ≤ 200) (hd' : d' = nI dd) (hr' : r' = nI q) (hh' : h' = nI H) (hdd : dd ≤ 4) (hH : H ≤ 4) (he : ent I J dd now w x mi wg) (hw : w < 4) (hnow : ∀ u, now = some u → u < W.2.2.2)
    (k : ∀ I', fr I0 I' → ent I' J dd now w x mi wg → pkd W R S hr I' dd H now w x → low dd I I' J J → I' 77 = I 77 → P none (aHp r rr I' J)) : aCl L xs fv 111 (d + 7) 140 [.ref 77, .int d', .int r', .int h'] (aHp r rr I J) P := by
  refine cl_of rfl (Nat.le_add_right _ _) ?_
  subst hd'; subst hr'; subst hh'
  obtain ⟨e1, e2, e3, e4, e5⟩ := he
  have hcl : (nI dd).toNatClampNeg = dd := nI_clamp (by omega)
  refine go_v (cd := cd140) [] 9 rfl ?_
  refine go_iast (cd := cd140) rfl (nI_vin (n := 5) (by omega) (by decide)) (lv3 rfl) rfl ?_
  rw [hcl]
  refine go_v (cd := cd140) [] 9 rfl ?_
  by_cases hdH : dd = H
  · refine go_st (cd := cd140) 1 rfl (go_ifT (by rw [hdH]) ?_)
    refine go_return (cd := cd140) rfl (k _ (fr_arr hf (by decide) (by decide)) ⟨?_, ?_, ?_, ?_, e5⟩ ⟨by rw [up2_e]; rfl, fun h => absurd h (by omega)⟩ (fun p hp => ⟨fun j h1 h2 => ?_, rfl⟩) (up2_o rfl))
    · rw [up2_o rfl]; exact e1
    · rw [up2_o rfl]; exact e2
    · rw [up2_o rfl]; exact e3
    · rw [up2_o rfl]; exact e4
    · by_cases hj : j = 101
      · subst hj; rw [up2_42 (by omega)]
      · rw [up2_ne hj]
  · refine go_st (cd := cd140) 1 rfl (go_ifF (by rw [nI_eq (by omega) (by omega)]; exact hdH) ?_)
    -- the heap behind branch[d] = 0
    generalize hI1 : up2 I 101 dd 0 = I1
    have hf1 : fr I0 I1 := by rw [← hI1]; exact fr_arr hf (by decide) (by decide)
    have o : ∀ j, Nat.beq j 101 = false → I1 j = I j := fun j hj => by rw [← hI1]; exact up2_o hj
    have b1 : I1 101 dd = 0 := by rw [← hI1]; exact up2_e
    have b2 : ∀ p, p < dd → I1 101 p = I 101 p := fun p hp => by rw [← hI1]; exact up2_42 (by omega)
    have hW1 := rwl_fr hf1 hW
    have hS1 := rsc_fr hf1 hS
    have hR1 := rrl_fr hf1 hR
    have hh1 : I1 77 6 = nI hr := (hf1.2 6 (by decide)).trans hhr
    refine go_v (cd := cd140) [] 9 rfl ?_
    refine go_iald (cd := cd140) rfl (nI_vin (n := 5) (by omega) (by decide)) (lv3 rfl) rfl ?_
    rw [hcl, o 95 rfl, e1]
    refine go_v (cd := cd140) [] 9 rfl ?_
    refine go_iald (cd := cd140) rfl (nI_vin (n := 5) (by omega) (by decide)) (lv3 rfl) rfl ?_
    rw [hcl, o 96 rfl, e2]
    refine go_v (cd := cd140) [] 9 rfl ?_
    rw [show ((111 + 3 * r, I1, J, aRf r rr) : aH).2.1 77 6 = nI hr from hh1]
    refine go_iald (cd := cd140) rfl (nI_vin (n := 5) (by omega) (by decide)) (lv3 rfl) rfl ?_
    rw [hcl, o 97 rfl, e3, nI_add]
    have hI89 : I1 = up1 I1 89 (I1 89) := up1_id.symm
    rw [hI89]
    refine go_callv (cd := cd140) rfl rfl rfl rfl rfl (lv3 rfl) rfl (cl_pickOf (h := hr + dd) hW1 hS1 hR1 rfl rfl rfl rfl hw (by omega) hnow _ (fun c => ⟨rfl, ?_⟩))
    refine go_iast (cd := cd140) rfl (nI_vin (n := 5) (by omega) (by decide)) (lv3 rfl) rfl ?_
    rw [hcl]
    generalize hI2 : up2 (up1 I1 89 c) 99 dd (oI (pkW W R S (hr + dd) now w (bt x))) = I2
    have hf2 : fr I0 I2 := by rw [← hI2]; exact fr_arr (fr_89 hf1) (by decide) (by decide)
    have o2 : ∀ j, Nat.beq j 101 = false → Nat.beq j 99 = false → Nat.beq j 89 = false → I2 j = I j := fun j h1 h2 h3 => by rw [← hI2, up2_o h2, up1_o h3]; exact o j h1
    have p99 : I2 99 dd = oI (pkW W R S (hr + dd) now w (bt x)) := by rw [← hI2]; exact up2_e
    have p101 : I2 101 = I1 101 := by rw [← hI2, up2_o rfl, up1_o rfl]
    have p99' : ∀ p, p < dd → I2 99 p = I 99 p := fun p hp => by rw [← hI2, up2_42 (by omega), up1_o rfl, o 99 rfl]
    refine go_v (cd := cd140) [] 9 rfl ?_
    refine go_iald (cd := cd140) rfl (nI_vin (n := 5) (by omega) (by decide)) (lv3 rfl) rfl ?_
    rw [hcl, p99]
    refine go_v (cd := cd140) [] 9 rfl ?_
    refine go_iald (cd := cd140) rfl (nI_vin (n := 5) (by omega) (by decide)) (lv3 rfl) rfl ?_
    rw [hcl, o2 96 rfl rfl rfl, e2]
    refine go_v (cd := cd140) [] 9 rfl ?_
    rw [show ((111 + 3 * r, I2, J, aRf r rr) : aH).2.1 77 6 = nI hr from (hf2.2 6 (by decide)).trans hhr, nI_add]
    have hI289 : I2 = up1 I2 89 (I2 89) := up1_id.symm
    rw [hI289]
    have hW2 := rwl_fr hf2 hW
    refine go_callv (cd := cd140) rfl rfl rfl rfl rfl (lv3 rfl) rfl (cl_rsum (z := 1) (w := w) (h := hr + dd) (o := pkW W R S (hr + dd) now w (bt x)) (wt := W.2.1) hW2.1 rfl rfl rfl rfl (by decide) (fun s hs => by have := pkW_lt s hs; have := hW.2.1; omega) hw (by omega) (fun s hs => ⟨(hW2.2.2.2 s hs).1, (hW2.2.2.2 s hs).2.1⟩) _ (fun c => ⟨rfl, ?_⟩))
    refine go_iast (cd := cd140) rfl (nI_vin (n := 5) (by omega) (by decide)) (lv3 rfl) rfl ?_
    rw [hcl, spO_spA]
    refine go_return (cd := cd140) rfl (k _ (fr_arr (fr_89 hf2) (by decide) (by decide)) ⟨?_, ?_, ?_, ?_, e5⟩ ⟨?_, fun _ => ⟨?_, ?_⟩⟩ (fun p hp => ⟨fun j h1 h2 => ?_, rfl⟩) ?_)
    · rw [up2_o rfl, up1_o rfl, o2 95 rfl rfl rfl]; exact e1
    · rw [up2_o rfl, up1_o rfl, o2 96 rfl rfl rfl]; exact e2
    · rw [up2_o rfl, up1_o rfl, o2 97 rfl rfl rfl]; exact e3
    · rw [up2_o rfl, up1_o rfl, o2 98 rfl rfl rfl]; exact e4
    · rw [up2_o rfl, up1_o rfl, p101]; exact b1
    · rw [up2_o rfl, up1_o rfl]; exact p99
    · rw [up2_e]; rfl
    · by_cases h100 : j = 100
      · subst h100; rw [up2_42 (by omega), up1_o rfl, o2 100 rfl rfl rfl]
      · rw [up2_ne h100, up1_ne (by omega)]
        by_cases h99 : j = 99
        · subst h99; exact p99' p hp
        · by_cases h101 : j = 101
          · subst h101; rw [p101]; exact b2 p hp
          · exact congrFun (o2 j (nbeq h101) (nbeq h99) (nbeq (by omega))) p
    · rw [up2_o rfl, up1_o rfl, o2 77 rfl rfl rfl]
end DF
