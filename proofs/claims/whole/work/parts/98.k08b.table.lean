/-! the tables of names at the start -/
theorem cond_n {α : Type} {x y : Nat} {a b c : α} (h1 : x < y → a = c) (h2 : ¬ x < y → b = c) : cond (Nat.blt x y) a b = c := by
  cases h : Nat.blt x y with
  | true => exact h1 (Nat.le_of_ble_eq_true h)
  | false => exact h2 (fun hh => by rw [show Nat.blt x y = true from Nat.ble_eq_true_of_le hh] at h; cases h)
theorem wr_far {i k : Nat} (hik : ¬ (i < 111 ∧ k < 69)) : ∀ {l : List (Nat × Nat × Nat)} {f : Nat → Nat → Option Nat}, (∀ p ∈ l, p.1 < 111 ∧ p.2.1 < 69) → wrR l f i k = f i k
  | [], f, _ => rfl
  | p :: l, f, h => by
    have h1 := h p List.mem_cons_self
    show wrR l (up2 f p.1 p.2.1 (some p.2.2)) i k = f i k
    rw [wr_far hik (fun q hq => h q (List.mem_cons_of_mem _ hq))]
    by_cases e : i = p.1
    · rw [e, up2_42 (by omega)]
    · rw [up2_ne e]
set_option maxHeartbeats 4000000 in
theorem aRf0_far {i k : Nat} (hk : 69 ≤ k) (hi : i < 111) : aRf 0 none i k = none := by
  unfold aRf
  repeat' first
    | rfl
    | (exfalso; omega)
    | (refine cond_n (fun _ => ?_) (fun _ => ?_))
set_option maxRecDepth 8000 in
theorem wr_c0 : ∀ i : Fin 10, ∀ k : Fin 69, wrR stR2 (wrR stR1 (fun _ _ => none)) (0 + i.val) k.val = aRf 0 none (0 + i.val) k.val := by decide +kernel
set_option maxRecDepth 8000 in
theorem wr_c1 : ∀ i : Fin 10, ∀ k : Fin 69, wrR stR2 (wrR stR1 (fun _ _ => none)) (10 + i.val) k.val = aRf 0 none (10 + i.val) k.val := by decide +kernel
set_option maxRecDepth 8000 in
theorem wr_c2 : ∀ i : Fin 10, ∀ k : Fin 69, wrR stR2 (wrR stR1 (fun _ _ => none)) (20 + i.val) k.val = aRf 0 none (20 + i.val) k.val := by decide +kernel
set_option maxRecDepth 8000 in
theorem wr_c3 : ∀ i : Fin 10, ∀ k : Fin 69, wrR stR2 (wrR stR1 (fun _ _ => none)) (30 + i.val) k.val = aRf 0 none (30 + i.val) k.val := by decide +kernel
set_option maxRecDepth 8000 in
theorem wr_c4 : ∀ i : Fin 10, ∀ k : Fin 69, wrR stR2 (wrR stR1 (fun _ _ => none)) (40 + i.val) k.val = aRf 0 none (40 + i.val) k.val := by decide +kernel
set_option maxRecDepth 8000 in
theorem wr_c5 : ∀ i : Fin 10, ∀ k : Fin 69, wrR stR2 (wrR stR1 (fun _ _ => none)) (50 + i.val) k.val = aRf 0 none (50 + i.val) k.val := by decide +kernel
set_option maxRecDepth 8000 in
theorem wr_c6 : ∀ i : Fin 10, ∀ k : Fin 69, wrR stR2 (wrR stR1 (fun _ _ => none)) (60 + i.val) k.val = aRf 0 none (60 + i.val) k.val := by decide +kernel
set_option maxRecDepth 8000 in
theorem wr_c7 : ∀ i : Fin 10, ∀ k : Fin 69, wrR stR2 (wrR stR1 (fun _ _ => none)) (70 + i.val) k.val = aRf 0 none (70 + i.val) k.val := by decide +kernel
set_option maxRecDepth 8000 in
theorem wr_c8 : ∀ i : Fin 10, ∀ k : Fin 69, wrR stR2 (wrR stR1 (fun _ _ => none)) (80 + i.val) k.val = aRf 0 none (80 + i.val) k.val := by decide +kernel
set_option maxRecDepth 8000 in
theorem wr_c9 : ∀ i : Fin 10, ∀ k : Fin 69, wrR stR2 (wrR stR1 (fun _ _ => none)) (90 + i.val) k.val = aRf 0 none (90 + i.val) k.val := by decide +kernel
set_option maxRecDepth 8000 in
theorem wr_c10 : ∀ i : Fin 10, ∀ k : Fin 69, wrR stR2 (wrR stR1 (fun _ _ => none)) (100 + i.val) k.val = aRf 0 none (100 + i.val) k.val := by decide +kernel
set_option maxRecDepth 8000 in
theorem wr_c11 : ∀ i : Fin 1, ∀ k : Fin 69, wrR stR2 (wrR stR1 (fun _ _ => none)) (110 + i.val) k.val = aRf 0 none (110 + i.val) k.val := by decide +kernel
theorem wr_start : wrR stR2 (wrR stR1 (fun _ _ => none)) = aRf 0 none := by
  funext i k
  have h1 : ∀ p ∈ stR1, p.1 < 111 ∧ p.2.1 < 69 := by decide +kernel
  have h2 : ∀ p ∈ stR2, p.1 < 111 ∧ p.2.1 < 69 := by decide +kernel
  by_cases h : i < 111 ∧ k < 69
  · obtain ⟨hi, hk⟩ := h
    by_cases c0 : i < 10
    · have := wr_c0 ⟨i - 0, by omega⟩ ⟨k, hk⟩
      rw [show 0 + (i - 0) = i by omega] at this
      exact this
    by_cases c1 : i < 20
    · have := wr_c1 ⟨i - 10, by omega⟩ ⟨k, hk⟩
      rw [show 10 + (i - 10) = i by omega] at this
      exact this
    by_cases c2 : i < 30
    · have := wr_c2 ⟨i - 20, by omega⟩ ⟨k, hk⟩
      rw [show 20 + (i - 20) = i by omega] at this
      exact this
    by_cases c3 : i < 40
    · have := wr_c3 ⟨i - 30, by omega⟩ ⟨k, hk⟩
      rw [show 30 + (i - 30) = i by omega] at this
      exact this
    by_cases c4 : i < 50
    · have := wr_c4 ⟨i - 40, by omega⟩ ⟨k, hk⟩
      rw [show 40 + (i - 40) = i by omega] at this
      exact this
    by_cases c5 : i < 60
    · have := wr_c5 ⟨i - 50, by omega⟩ ⟨k, hk⟩
      rw [show 50 + (i - 50) = i by omega] at this
      exact this
    by_cases c6 : i < 70
    · have := wr_c6 ⟨i - 60, by omega⟩ ⟨k, hk⟩
      rw [show 60 + (i - 60) = i by omega] at this
      exact this
    by_cases c7 : i < 80
    · have := wr_c7 ⟨i - 70, by omega⟩ ⟨k, hk⟩
      rw [show 70 + (i - 70) = i by omega] at this
      exact this
    by_cases c8 : i < 90
    · have := wr_c8 ⟨i - 80, by omega⟩ ⟨k, hk⟩
      rw [show 80 + (i - 80) = i by omega] at this
      exact this
    by_cases c9 : i < 100
    · have := wr_c9 ⟨i - 90, by omega⟩ ⟨k, hk⟩
      rw [show 90 + (i - 90) = i by omega] at this
      exact this
    by_cases c10 : i < 110
    · have := wr_c10 ⟨i - 100, by omega⟩ ⟨k, hk⟩
      rw [show 100 + (i - 100) = i by omega] at this
      exact this
    by_cases c11 : i < 111
    · have := wr_c11 ⟨i - 110, by omega⟩ ⟨k, hk⟩
      rw [show 110 + (i - 110) = i by omega] at this
      exact this
    omega
  · rw [wr_far h h2, wr_far h h1]
    by_cases hi : i < 111
    · exact (aRf0_far (by omega) hi).symm
    · rw [aRf_big (by omega), if_neg (by omega)]
