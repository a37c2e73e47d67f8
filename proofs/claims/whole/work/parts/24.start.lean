/-! THE CLAIM OUT OF ONE WALK OF THE LAW'S BODY. Your part is whole_start (and what it stands on); all else here is the same for every law, but numbers. -/
def R_law : String := "NineSailsLaw"
def lw_P (b : Addr) (xs : List Int32) (args : Array Value) (s : State) : Prop := args = #[.ref b] ∧ s.IntsAt b xs ∧ xs.length ≤ 3072 ∧ (Jvm.Cond.and given_1 narrow_1).before args s = true
def lw_Q (_ : Array Value) (s : State) (o : Outcome) (t : State) : Prop := o = .returned (some (.int 1)) ∧ Framed s o t [] 617840 7248727
def lw_Z (below : List Frame) (a : Array Value) (s : State) : State → Prop := fun t => ∃ o, t.status = .running ∧ Ended t below o ∧ lw_Q a s o t
/-- the law's own end, with 1 on the stack, nothing written that was there before, its room as the claim has it -/
theorem lw_ret {p : Program} {l : Launch} {e : Env} {s : State} {m : MethodId} {below : List Frame} {meth : Method} {c : Code} {b : Nat} (hx : p.tables.exec = Jvm.exec) (hb : c.code = code) (hr : meth.sig.returnType = ret) (hlocks : meth.locks = false) {pc : Nat} {H : Heap} {ls : Array Slot} (hdg : decode code pc = .ok (.ireturn, 1)) : W p l e room_1 s m #[Value.ref b] below meth c H [] 617840 7248727 (lw_Z below #[Value.ref b] s) (F0 m pc ls [.int 1]) := by
  intro T hT X
  obtain ⟨fs, hret, hrun, hended, hW, hframe⟩ := X.leave (v := some (.int 1)) (hlocks := hlocks) (fun h => by rw [hr] at h; cases h)
  have hmeth' : T.vm.method? m = some meth := X.method'
  refine ⟨T.setFrames fs, ?_, .returned (some (.int 1)), hrun, hended, rfl, ⟨_, rfl⟩, hW, hframe⟩
  jvm_step X.here [X.here.top, hx, hb, hdg, hmeth', hr, ret, narrow_b1]
  (try refine ⟨rfl, ?_⟩); (try refine ⟨rfl, ?_⟩)
  first | (intro acts; rw [hret _ acts rfl rfl rfl]) | rw [hret _ _ rfl rfl rfl]
  exact Steps.refl _
/-- what holds at the law's entry: the machine, the code, the tables' words (any of lw_tbl by 'hts w (by decide +kernel)'), the script of L ints xs at the cell b, what the Statement gives of the start (any of its parts by flat_of_before) -/
def lw_At (p : Program) (s : State) (m : MethodId) (meth : Method) (c : Code) (b L : Nat) (xs : Nat → Int32) : Prop :=
  p.tables.exec = Jvm.exec ∧ c.code = code ∧ meth.sig.returnType = ret ∧ c.maxLocals = 4 ∧ s.vm.findClass R_law = some m.cls ∧ (∀ w ∈ lw_tbl, w.before #[Value.ref b] s = true) ∧ va_X b L xs s s.heap ∧ b < s.heap.size ∧ meth.locks = false ∧ (Jvm.Cond.and given_1 narrow_1).before #[Value.ref b] s = true

theorem iq0_0 : u_lay RX0 TX0 0 ∈ aTs := (aIn1 128 rfl rfl)
theorem iq0_1 : u_lay RX0 TX0 1 ∈ aTs := (aIn1 130 rfl rfl)
theorem iq0_2 : u_lay RX0 TX0 2 ∈ aTs := (aIn1 132 rfl rfl)
theorem iq0_3 : u_lay RX0 TX0 3 ∈ aTs := (aIn1 134 rfl rfl)
theorem iq0_4 : u_lay RX0 TX0 4 ∈ aTs := (aIn1 136 rfl rfl)
theorem iq0_5 : u_lay RX0 TX0 5 ∈ aTs := (aIn1 138 rfl rfl)
theorem iq0_6 : u_lay RX0 TX0 6 ∈ aTs := (aIn1 140 rfl rfl)
theorem iq0_7 : u_lay RX0 TX0 7 ∈ aTs := (aIn1 142 rfl rfl)
theorem iq0_8 : u_lay RX0 TX0 8 ∈ aTs := (aIn1 144 rfl rfl)
theorem inT0 : ∀ w ∈ u_ws RX0 TX0 9, w ∈ aTs := by
  intro w hw
  obtain ⟨k, hk, rfl⟩ := List.mem_map.mp hw
  have hk := List.mem_range.mp hk
  match k, hk with
  | 0, _ => exact iq0_0
  | 1, _ => exact iq0_1
  | 2, _ => exact iq0_2
  | 3, _ => exact iq0_3
  | 4, _ => exact iq0_4
  | 5, _ => exact iq0_5
  | 6, _ => exact iq0_6
  | 7, _ => exact iq0_7
  | 8, _ => exact iq0_8
  | k + 9, hk => omega
theorem iq1_0 : u_lay RX1 TX1 0 ∈ aTs := (aIn1 88 rfl rfl)
theorem iq1_1 : u_lay RX1 TX1 1 ∈ aTs := (aIn1 90 rfl rfl)
theorem iq1_2 : u_lay RX1 TX1 2 ∈ aTs := (aIn1 92 rfl rfl)
theorem iq1_3 : u_lay RX1 TX1 3 ∈ aTs := (aIn1 94 rfl rfl)
theorem iq1_4 : u_lay RX1 TX1 4 ∈ aTs := (aIn1 96 rfl rfl)
theorem inT1 : ∀ w ∈ u_ws RX1 TX1 5, w ∈ aTs := by
  intro w hw
  obtain ⟨k, hk, rfl⟩ := List.mem_map.mp hw
  have hk := List.mem_range.mp hk
  match k, hk with
  | 0, _ => exact iq1_0
  | 1, _ => exact iq1_1
  | 2, _ => exact iq1_2
  | 3, _ => exact iq1_3
  | 4, _ => exact iq1_4
  | k + 5, hk => omega
theorem iq2_0 : u_lay RX2 TX2 0 ∈ aTs := (aIn1 167 rfl rfl)
theorem iq2_1 : u_lay RX2 TX2 1 ∈ aTs := (aIn1 169 rfl rfl)
theorem iq2_2 : u_lay RX2 TX2 2 ∈ aTs := (aIn1 171 rfl rfl)
theorem iq2_3 : u_lay RX2 TX2 3 ∈ aTs := (aIn1 173 rfl rfl)
theorem iq2_4 : u_lay RX2 TX2 4 ∈ aTs := (aIn1 175 rfl rfl)
theorem inT2 : ∀ w ∈ u_ws RX2 TX2 5, w ∈ aTs := by
  intro w hw
  obtain ⟨k, hk, rfl⟩ := List.mem_map.mp hw
  have hk := List.mem_range.mp hk
  match k, hk with
  | 0, _ => exact iq2_0
  | 1, _ => exact iq2_1
  | 2, _ => exact iq2_2
  | 3, _ => exact iq2_3
  | 4, _ => exact iq2_4
  | k + 5, hk => omega
theorem iq3_0 : u_lay RX3 TX3 0 ∈ aTs := (aIn1 52 rfl rfl)
theorem iq3_1 : u_lay RX3 TX3 1 ∈ aTs := (aIn1 54 rfl rfl)
theorem iq3_2 : u_lay RX3 TX3 2 ∈ aTs := (aIn1 56 rfl rfl)
theorem iq3_3 : u_lay RX3 TX3 3 ∈ aTs := (aIn1 58 rfl rfl)
theorem iq3_4 : u_lay RX3 TX3 4 ∈ aTs := (aIn1 60 rfl rfl)
theorem iq3_5 : u_lay RX3 TX3 5 ∈ aTs := (aIn1 62 rfl rfl)
theorem iq3_6 : u_lay RX3 TX3 6 ∈ aTs := (aIn1 64 rfl rfl)
theorem iq3_7 : u_lay RX3 TX3 7 ∈ aTs := (aIn1 66 rfl rfl)
theorem iq3_8 : u_lay RX3 TX3 8 ∈ aTs := (aIn1 68 rfl rfl)
theorem iq3_9 : u_lay RX3 TX3 9 ∈ aTs := (aIn1 70 rfl rfl)
theorem iq3_10 : u_lay RX3 TX3 10 ∈ aTs := (aIn1 72 rfl rfl)
theorem inT3 : ∀ w ∈ u_ws RX3 TX3 11, w ∈ aTs := by
  intro w hw
  obtain ⟨k, hk, rfl⟩ := List.mem_map.mp hw
  have hk := List.mem_range.mp hk
  match k, hk with
  | 0, _ => exact iq3_0
  | 1, _ => exact iq3_1
  | 2, _ => exact iq3_2
  | 3, _ => exact iq3_3
  | 4, _ => exact iq3_4
  | 5, _ => exact iq3_5
  | 6, _ => exact iq3_6
  | 7, _ => exact iq3_7
  | 8, _ => exact iq3_8
  | 9, _ => exact iq3_9
  | 10, _ => exact iq3_10
  | k + 11, hk => omega
theorem iq4_0 : u_lay RX4 TX4 0 ∈ aTs := (aIn1 191 rfl rfl)
theorem iq4_1 : u_lay RX4 TX4 1 ∈ aTs := (aIn1 193 rfl rfl)
theorem iq4_2 : u_lay RX4 TX4 2 ∈ aTs := (aIn1 195 rfl rfl)
theorem inT4 : ∀ w ∈ u_ws RX4 TX4 3, w ∈ aTs := by
  intro w hw
  obtain ⟨k, hk, rfl⟩ := List.mem_map.mp hw
  have hk := List.mem_range.mp hk
  match k, hk with
  | 0, _ => exact iq4_0
  | 1, _ => exact iq4_1
  | 2, _ => exact iq4_2
  | k + 3, hk => omega
theorem iq5_0 : u_lay RX5 TX5 0 ∈ aTs := (aIn1 219 rfl rfl)
theorem iq5_1 : u_lay RX5 TX5 1 ∈ aTs := (aIn1 221 rfl rfl)
theorem iq5_2 : u_lay RX5 TX5 2 ∈ aTs := (aIn1 223 rfl rfl)
theorem iq5_3 : u_lay RX5 TX5 3 ∈ aTs := (aIn1 225 rfl rfl)
theorem iq5_4 : u_lay RX5 TX5 4 ∈ aTs := (aIn1 227 rfl rfl)
theorem iq5_5 : u_lay RX5 TX5 5 ∈ aTs := (aIn1 229 rfl rfl)
theorem iq5_6 : u_lay RX5 TX5 6 ∈ aTs := (aIn1 231 rfl rfl)
theorem iq5_7 : u_lay RX5 TX5 7 ∈ aTs := (aIn1 233 rfl rfl)
theorem iq5_8 : u_lay RX5 TX5 8 ∈ aTs := (aIn1 235 rfl rfl)
theorem iq5_9 : u_lay RX5 TX5 9 ∈ aTs := (aIn1 237 rfl rfl)
theorem iq5_10 : u_lay RX5 TX5 10 ∈ aTs := (aIn1 239 rfl rfl)
theorem iq5_11 : u_lay RX5 TX5 11 ∈ aTs := (aIn2 1 rfl rfl)
theorem iq5_12 : u_lay RX5 TX5 12 ∈ aTs := (aIn2 3 rfl rfl)
theorem iq5_13 : u_lay RX5 TX5 13 ∈ aTs := (aIn2 5 rfl rfl)
theorem iq5_14 : u_lay RX5 TX5 14 ∈ aTs := (aIn2 7 rfl rfl)
theorem iq5_15 : u_lay RX5 TX5 15 ∈ aTs := (aIn2 9 rfl rfl)
theorem iq5_16 : u_lay RX5 TX5 16 ∈ aTs := (aIn2 11 rfl rfl)
theorem iq5_17 : u_lay RX5 TX5 17 ∈ aTs := (aIn2 13 rfl rfl)
theorem iq5_18 : u_lay RX5 TX5 18 ∈ aTs := (aIn2 15 rfl rfl)
theorem inT5 : ∀ w ∈ u_ws RX5 TX5 19, w ∈ aTs := by
  intro w hw
  obtain ⟨k, hk, rfl⟩ := List.mem_map.mp hw
  have hk := List.mem_range.mp hk
  match k, hk with
  | 0, _ => exact iq5_0
  | 1, _ => exact iq5_1
  | 2, _ => exact iq5_2
  | 3, _ => exact iq5_3
  | 4, _ => exact iq5_4
  | 5, _ => exact iq5_5
  | 6, _ => exact iq5_6
  | 7, _ => exact iq5_7
  | 8, _ => exact iq5_8
  | 9, _ => exact iq5_9
  | 10, _ => exact iq5_10
  | 11, _ => exact iq5_11
  | 12, _ => exact iq5_12
  | 13, _ => exact iq5_13
  | 14, _ => exact iq5_14
  | 15, _ => exact iq5_15
  | 16, _ => exact iq5_16
  | 17, _ => exact iq5_17
  | 18, _ => exact iq5_18
  | k + 19, hk => omega
theorem iq6_0 : u_lay RX6 TX6 0 ∈ aTs := (aIn4 18 rfl rfl)
theorem iq6_1 : u_lay RX6 TX6 1 ∈ aTs := (aIn4 20 rfl rfl)
theorem iq6_2 : u_lay RX6 TX6 2 ∈ aTs := (aIn4 22 rfl rfl)
theorem iq6_3 : u_lay RX6 TX6 3 ∈ aTs := (aIn4 24 rfl rfl)
theorem iq6_4 : u_lay RX6 TX6 4 ∈ aTs := (aIn4 26 rfl rfl)
theorem iq6_5 : u_lay RX6 TX6 5 ∈ aTs := (aIn4 28 rfl rfl)
theorem iq6_6 : u_lay RX6 TX6 6 ∈ aTs := (aIn4 30 rfl rfl)
theorem iq6_7 : u_lay RX6 TX6 7 ∈ aTs := (aIn4 32 rfl rfl)
theorem iq6_8 : u_lay RX6 TX6 8 ∈ aTs := (aIn4 34 rfl rfl)
theorem iq6_9 : u_lay RX6 TX6 9 ∈ aTs := (aIn4 36 rfl rfl)
theorem iq6_10 : u_lay RX6 TX6 10 ∈ aTs := (aIn4 38 rfl rfl)
theorem iq6_11 : u_lay RX6 TX6 11 ∈ aTs := (aIn4 40 rfl rfl)
theorem iq6_12 : u_lay RX6 TX6 12 ∈ aTs := (aIn4 42 rfl rfl)
theorem iq6_13 : u_lay RX6 TX6 13 ∈ aTs := (aIn4 44 rfl rfl)
theorem iq6_14 : u_lay RX6 TX6 14 ∈ aTs := (aIn4 46 rfl rfl)
theorem iq6_15 : u_lay RX6 TX6 15 ∈ aTs := (aIn4 48 rfl rfl)
theorem iq6_16 : u_lay RX6 TX6 16 ∈ aTs := (aIn4 50 rfl rfl)
theorem iq6_17 : u_lay RX6 TX6 17 ∈ aTs := (aIn4 52 rfl rfl)
theorem iq6_18 : u_lay RX6 TX6 18 ∈ aTs := (aIn4 54 rfl rfl)
theorem iq6_19 : u_lay RX6 TX6 19 ∈ aTs := (aIn4 56 rfl rfl)
theorem iq6_20 : u_lay RX6 TX6 20 ∈ aTs := (aIn4 58 rfl rfl)
theorem iq6_21 : u_lay RX6 TX6 21 ∈ aTs := (aIn4 60 rfl rfl)
theorem iq6_22 : u_lay RX6 TX6 22 ∈ aTs := (aIn4 62 rfl rfl)
theorem iq6_23 : u_lay RX6 TX6 23 ∈ aTs := (aIn4 64 rfl rfl)
theorem iq6_24 : u_lay RX6 TX6 24 ∈ aTs := (aIn4 66 rfl rfl)
theorem iq6_25 : u_lay RX6 TX6 25 ∈ aTs := (aIn4 68 rfl rfl)
theorem iq6_26 : u_lay RX6 TX6 26 ∈ aTs := (aIn4 70 rfl rfl)
theorem iq6_27 : u_lay RX6 TX6 27 ∈ aTs := (aIn4 72 rfl rfl)
theorem iq6_28 : u_lay RX6 TX6 28 ∈ aTs := (aIn4 74 rfl rfl)
theorem iq6_29 : u_lay RX6 TX6 29 ∈ aTs := (aIn4 76 rfl rfl)
theorem iq6_30 : u_lay RX6 TX6 30 ∈ aTs := (aIn4 78 rfl rfl)
theorem iq6_31 : u_lay RX6 TX6 31 ∈ aTs := (aIn4 80 rfl rfl)
theorem iq6_32 : u_lay RX6 TX6 32 ∈ aTs := (aIn4 82 rfl rfl)
theorem iq6_33 : u_lay RX6 TX6 33 ∈ aTs := (aIn4 84 rfl rfl)
theorem iq6_34 : u_lay RX6 TX6 34 ∈ aTs := (aIn4 86 rfl rfl)
theorem iq6_35 : u_lay RX6 TX6 35 ∈ aTs := (aIn4 88 rfl rfl)
theorem iq6_36 : u_lay RX6 TX6 36 ∈ aTs := (aIn4 90 rfl rfl)
theorem iq6_37 : u_lay RX6 TX6 37 ∈ aTs := (aIn4 92 rfl rfl)
theorem iq6_38 : u_lay RX6 TX6 38 ∈ aTs := (aIn4 94 rfl rfl)
theorem iq6_39 : u_lay RX6 TX6 39 ∈ aTs := (aIn4 96 rfl rfl)
theorem iq6_40 : u_lay RX6 TX6 40 ∈ aTs := (aIn4 98 rfl rfl)
theorem iq6_41 : u_lay RX6 TX6 41 ∈ aTs := (aIn4 100 rfl rfl)
theorem iq6_42 : u_lay RX6 TX6 42 ∈ aTs := (aIn4 102 rfl rfl)
theorem iq6_43 : u_lay RX6 TX6 43 ∈ aTs := (aIn4 104 rfl rfl)
theorem iq6_44 : u_lay RX6 TX6 44 ∈ aTs := (aIn4 106 rfl rfl)
theorem iq6_45 : u_lay RX6 TX6 45 ∈ aTs := (aIn4 108 rfl rfl)
theorem iq6_46 : u_lay RX6 TX6 46 ∈ aTs := (aIn4 110 rfl rfl)
theorem iq6_47 : u_lay RX6 TX6 47 ∈ aTs := (aIn4 112 rfl rfl)
theorem iq6_48 : u_lay RX6 TX6 48 ∈ aTs := (aIn4 114 rfl rfl)
theorem iq6_49 : u_lay RX6 TX6 49 ∈ aTs := (aIn4 116 rfl rfl)
theorem iq6_50 : u_lay RX6 TX6 50 ∈ aTs := (aIn4 118 rfl rfl)
theorem iq6_51 : u_lay RX6 TX6 51 ∈ aTs := (aIn4 120 rfl rfl)
theorem iq6_52 : u_lay RX6 TX6 52 ∈ aTs := (aIn4 122 rfl rfl)
theorem iq6_53 : u_lay RX6 TX6 53 ∈ aTs := (aIn4 124 rfl rfl)
theorem iq6_54 : u_lay RX6 TX6 54 ∈ aTs := (aIn4 126 rfl rfl)
theorem iq6_55 : u_lay RX6 TX6 55 ∈ aTs := (aIn4 128 rfl rfl)
theorem iq6_56 : u_lay RX6 TX6 56 ∈ aTs := (aIn4 130 rfl rfl)
theorem iq6_57 : u_lay RX6 TX6 57 ∈ aTs := (aIn4 132 rfl rfl)
theorem iq6_58 : u_lay RX6 TX6 58 ∈ aTs := (aIn4 134 rfl rfl)
theorem iq6_59 : u_lay RX6 TX6 59 ∈ aTs := (aIn4 136 rfl rfl)
theorem iq6_60 : u_lay RX6 TX6 60 ∈ aTs := (aIn4 138 rfl rfl)
theorem iq6_61 : u_lay RX6 TX6 61 ∈ aTs := (aIn4 140 rfl rfl)
theorem iq6_62 : u_lay RX6 TX6 62 ∈ aTs := (aIn4 142 rfl rfl)
theorem iq6_63 : u_lay RX6 TX6 63 ∈ aTs := (aIn4 144 rfl rfl)
theorem iq6_64 : u_lay RX6 TX6 64 ∈ aTs := (aIn4 146 rfl rfl)
theorem iq6_65 : u_lay RX6 TX6 65 ∈ aTs := (aIn4 148 rfl rfl)
theorem iq6_66 : u_lay RX6 TX6 66 ∈ aTs := (aIn4 150 rfl rfl)
theorem iq6_67 : u_lay RX6 TX6 67 ∈ aTs := (aIn4 152 rfl rfl)
theorem iq6_68 : u_lay RX6 TX6 68 ∈ aTs := (aIn4 154 rfl rfl)
theorem inT6 : ∀ w ∈ u_ws RX6 TX6 69, w ∈ aTs := by
  intro w hw
  obtain ⟨k, hk, rfl⟩ := List.mem_map.mp hw
  have hk := List.mem_range.mp hk
  match k, hk with
  | 0, _ => exact iq6_0
  | 1, _ => exact iq6_1
  | 2, _ => exact iq6_2
  | 3, _ => exact iq6_3
  | 4, _ => exact iq6_4
  | 5, _ => exact iq6_5
  | 6, _ => exact iq6_6
  | 7, _ => exact iq6_7
  | 8, _ => exact iq6_8
  | 9, _ => exact iq6_9
  | 10, _ => exact iq6_10
  | 11, _ => exact iq6_11
  | 12, _ => exact iq6_12
  | 13, _ => exact iq6_13
  | 14, _ => exact iq6_14
  | 15, _ => exact iq6_15
  | 16, _ => exact iq6_16
  | 17, _ => exact iq6_17
  | 18, _ => exact iq6_18
  | 19, _ => exact iq6_19
  | 20, _ => exact iq6_20
  | 21, _ => exact iq6_21
  | 22, _ => exact iq6_22
  | 23, _ => exact iq6_23
  | 24, _ => exact iq6_24
  | 25, _ => exact iq6_25
  | 26, _ => exact iq6_26
  | 27, _ => exact iq6_27
  | 28, _ => exact iq6_28
  | 29, _ => exact iq6_29
  | 30, _ => exact iq6_30
  | 31, _ => exact iq6_31
  | 32, _ => exact iq6_32
  | 33, _ => exact iq6_33
  | 34, _ => exact iq6_34
  | 35, _ => exact iq6_35
  | 36, _ => exact iq6_36
  | 37, _ => exact iq6_37
  | 38, _ => exact iq6_38
  | 39, _ => exact iq6_39
  | 40, _ => exact iq6_40
  | 41, _ => exact iq6_41
  | 42, _ => exact iq6_42
  | 43, _ => exact iq6_43
  | 44, _ => exact iq6_44
  | 45, _ => exact iq6_45
  | 46, _ => exact iq6_46
  | 47, _ => exact iq6_47
  | 48, _ => exact iq6_48
  | 49, _ => exact iq6_49
  | 50, _ => exact iq6_50
  | 51, _ => exact iq6_51
  | 52, _ => exact iq6_52
  | 53, _ => exact iq6_53
  | 54, _ => exact iq6_54
  | 55, _ => exact iq6_55
  | 56, _ => exact iq6_56
  | 57, _ => exact iq6_57
  | 58, _ => exact iq6_58
  | 59, _ => exact iq6_59
  | 60, _ => exact iq6_60
  | 61, _ => exact iq6_61
  | 62, _ => exact iq6_62
  | 63, _ => exact iq6_63
  | 64, _ => exact iq6_64
  | 65, _ => exact iq6_65
  | 66, _ => exact iq6_66
  | 67, _ => exact iq6_67
  | 68, _ => exact iq6_68
  | k + 69, hk => omega
theorem tk0 (k : Nat) (hk : k < 9) : (aFk 0 k = 0 ∧ tyX0 k = .int) ∨ (aFk 0 k = 1 ∧ tyX0 k = .long) ∨ (aFk 0 k = 3 ∧ tyX0 k = .boolean) ∨ (aFk 0 k = 2 ∧ ((∃ n, tyX0 k = .object n) ∨ ∃ n, tyX0 k = .array n)) := by
  match k, hk with
  | 0, _ => exact Or.inl ⟨rfl, rfl⟩
  | 1, _ => exact Or.inr (Or.inr (Or.inr ⟨rfl, Or.inr ⟨_, rfl⟩⟩))
  | 2, _ => exact Or.inr (Or.inr (Or.inr ⟨rfl, Or.inr ⟨_, rfl⟩⟩))
  | 3, _ => exact Or.inr (Or.inr (Or.inr ⟨rfl, Or.inr ⟨_, rfl⟩⟩))
  | 4, _ => exact Or.inr (Or.inr (Or.inr ⟨rfl, Or.inr ⟨_, rfl⟩⟩))
  | 5, _ => exact Or.inr (Or.inr (Or.inr ⟨rfl, Or.inr ⟨_, rfl⟩⟩))
  | 6, _ => exact Or.inl ⟨rfl, rfl⟩
  | 7, _ => exact Or.inl ⟨rfl, rfl⟩
  | 8, _ => exact Or.inr (Or.inr (Or.inr ⟨rfl, Or.inr ⟨_, rfl⟩⟩))
  | k + 9, hk => omega

theorem tk1 (k : Nat) (hk : k < 5) : (aFk 1 k = 0 ∧ tyX1 k = .int) ∨ (aFk 1 k = 1 ∧ tyX1 k = .long) ∨ (aFk 1 k = 3 ∧ tyX1 k = .boolean) ∨ (aFk 1 k = 2 ∧ ((∃ n, tyX1 k = .object n) ∨ ∃ n, tyX1 k = .array n)) := by
  match k, hk with
  | 0, _ => exact Or.inr (Or.inr (Or.inr ⟨rfl, Or.inr ⟨_, rfl⟩⟩))
  | 1, _ => exact Or.inl ⟨rfl, rfl⟩
  | 2, _ => exact Or.inl ⟨rfl, rfl⟩
  | 3, _ => exact Or.inl ⟨rfl, rfl⟩
  | 4, _ => exact Or.inr (Or.inr (Or.inr ⟨rfl, Or.inl ⟨_, rfl⟩⟩))
  | k + 5, hk => omega

theorem tk2 (k : Nat) (hk : k < 5) : (aFk 2 k = 0 ∧ tyX2 k = .int) ∨ (aFk 2 k = 1 ∧ tyX2 k = .long) ∨ (aFk 2 k = 3 ∧ tyX2 k = .boolean) ∨ (aFk 2 k = 2 ∧ ((∃ n, tyX2 k = .object n) ∨ ∃ n, tyX2 k = .array n)) := by
  match k, hk with
  | 0, _ => exact Or.inl ⟨rfl, rfl⟩
  | 1, _ => exact Or.inl ⟨rfl, rfl⟩
  | 2, _ => exact Or.inl ⟨rfl, rfl⟩
  | 3, _ => exact Or.inr (Or.inr (Or.inr ⟨rfl, Or.inr ⟨_, rfl⟩⟩))
  | 4, _ => exact Or.inr (Or.inr (Or.inr ⟨rfl, Or.inr ⟨_, rfl⟩⟩))
  | k + 5, hk => omega

theorem tk3 (k : Nat) (hk : k < 11) : (aFk 3 k = 0 ∧ tyX3 k = .int) ∨ (aFk 3 k = 1 ∧ tyX3 k = .long) ∨ (aFk 3 k = 3 ∧ tyX3 k = .boolean) ∨ (aFk 3 k = 2 ∧ ((∃ n, tyX3 k = .object n) ∨ ∃ n, tyX3 k = .array n)) := by
  match k, hk with
  | 0, _ => exact Or.inl ⟨rfl, rfl⟩
  | 1, _ => exact Or.inl ⟨rfl, rfl⟩
  | 2, _ => exact Or.inl ⟨rfl, rfl⟩
  | 3, _ => exact Or.inl ⟨rfl, rfl⟩
  | 4, _ => exact Or.inl ⟨rfl, rfl⟩
  | 5, _ => exact Or.inl ⟨rfl, rfl⟩
  | 6, _ => exact Or.inl ⟨rfl, rfl⟩
  | 7, _ => exact Or.inl ⟨rfl, rfl⟩
  | 8, _ => exact Or.inl ⟨rfl, rfl⟩
  | 9, _ => exact Or.inl ⟨rfl, rfl⟩
  | 10, _ => exact Or.inr (Or.inr (Or.inr ⟨rfl, Or.inr ⟨_, rfl⟩⟩))
  | k + 11, hk => omega

theorem tk4 (k : Nat) (hk : k < 3) : (aFk 4 k = 0 ∧ tyX4 k = .int) ∨ (aFk 4 k = 1 ∧ tyX4 k = .long) ∨ (aFk 4 k = 3 ∧ tyX4 k = .boolean) ∨ (aFk 4 k = 2 ∧ ((∃ n, tyX4 k = .object n) ∨ ∃ n, tyX4 k = .array n)) := by
  match k, hk with
  | 0, _ => exact Or.inl ⟨rfl, rfl⟩
  | 1, _ => exact Or.inl ⟨rfl, rfl⟩
  | 2, _ => exact Or.inr (Or.inr (Or.inr ⟨rfl, Or.inr ⟨_, rfl⟩⟩))
  | k + 3, hk => omega

theorem tk5 (k : Nat) (hk : k < 19) : (aFk 5 k = 0 ∧ tyX5 k = .int) ∨ (aFk 5 k = 1 ∧ tyX5 k = .long) ∨ (aFk 5 k = 3 ∧ tyX5 k = .boolean) ∨ (aFk 5 k = 2 ∧ ((∃ n, tyX5 k = .object n) ∨ ∃ n, tyX5 k = .array n)) := by
  match k, hk with
  | 0, _ => exact Or.inr (Or.inr (Or.inr ⟨rfl, Or.inl ⟨_, rfl⟩⟩))
  | 1, _ => exact Or.inr (Or.inr (Or.inr ⟨rfl, Or.inl ⟨_, rfl⟩⟩))
  | 2, _ => exact Or.inr (Or.inr (Or.inr ⟨rfl, Or.inl ⟨_, rfl⟩⟩))
  | 3, _ => exact Or.inr (Or.inr (Or.inl ⟨rfl, rfl⟩))
  | 4, _ => exact Or.inr (Or.inr (Or.inr ⟨rfl, Or.inr ⟨_, rfl⟩⟩))
  | 5, _ => exact Or.inr (Or.inr (Or.inr ⟨rfl, Or.inr ⟨_, rfl⟩⟩))
  | 6, _ => exact Or.inr (Or.inr (Or.inr ⟨rfl, Or.inl ⟨_, rfl⟩⟩))
  | 7, _ => exact Or.inr (Or.inr (Or.inr ⟨rfl, Or.inr ⟨_, rfl⟩⟩))
  | 8, _ => exact Or.inr (Or.inr (Or.inr ⟨rfl, Or.inl ⟨_, rfl⟩⟩))
  | 9, _ => exact Or.inl ⟨rfl, rfl⟩
  | 10, _ => exact Or.inr (Or.inr (Or.inr ⟨rfl, Or.inr ⟨_, rfl⟩⟩))
  | 11, _ => exact Or.inr (Or.inr (Or.inr ⟨rfl, Or.inr ⟨_, rfl⟩⟩))
  | 12, _ => exact Or.inl ⟨rfl, rfl⟩
  | 13, _ => exact Or.inr (Or.inr (Or.inr ⟨rfl, Or.inl ⟨_, rfl⟩⟩))
  | 14, _ => exact Or.inr (Or.inr (Or.inr ⟨rfl, Or.inl ⟨_, rfl⟩⟩))
  | 15, _ => exact Or.inr (Or.inr (Or.inr ⟨rfl, Or.inr ⟨_, rfl⟩⟩))
  | 16, _ => exact Or.inr (Or.inr (Or.inr ⟨rfl, Or.inr ⟨_, rfl⟩⟩))
  | 17, _ => exact Or.inr (Or.inr (Or.inr ⟨rfl, Or.inr ⟨_, rfl⟩⟩))
  | 18, _ => exact Or.inl ⟨rfl, rfl⟩
  | k + 19, hk => omega

theorem tk6 (k : Nat) (hk : k < 69) : (aFk 6 k = 0 ∧ tyX6 k = .int) ∨ (aFk 6 k = 1 ∧ tyX6 k = .long) ∨ (aFk 6 k = 3 ∧ tyX6 k = .boolean) ∨ (aFk 6 k = 2 ∧ ((∃ n, tyX6 k = .object n) ∨ ∃ n, tyX6 k = .array n)) := by
  match k, hk with
  | 0, _ => exact Or.inl ⟨rfl, rfl⟩
  | 1, _ => exact Or.inl ⟨rfl, rfl⟩
  | 2, _ => exact Or.inl ⟨rfl, rfl⟩
  | 3, _ => exact Or.inl ⟨rfl, rfl⟩
  | 4, _ => exact Or.inl ⟨rfl, rfl⟩
  | 5, _ => exact Or.inl ⟨rfl, rfl⟩
  | 6, _ => exact Or.inl ⟨rfl, rfl⟩
  | 7, _ => exact Or.inl ⟨rfl, rfl⟩
  | 8, _ => exact Or.inr (Or.inr (Or.inr ⟨rfl, Or.inr ⟨_, rfl⟩⟩))
  | 9, _ => exact Or.inr (Or.inr (Or.inr ⟨rfl, Or.inr ⟨_, rfl⟩⟩))
  | 10, _ => exact Or.inl ⟨rfl, rfl⟩
  | 11, _ => exact Or.inl ⟨rfl, rfl⟩
  | 12, _ => exact Or.inl ⟨rfl, rfl⟩
  | 13, _ => exact Or.inl ⟨rfl, rfl⟩
  | 14, _ => exact Or.inl ⟨rfl, rfl⟩
  | 15, _ => exact Or.inr (Or.inr (Or.inr ⟨rfl, Or.inr ⟨_, rfl⟩⟩))
  | 16, _ => exact Or.inr (Or.inr (Or.inr ⟨rfl, Or.inr ⟨_, rfl⟩⟩))
  | 17, _ => exact Or.inr (Or.inr (Or.inr ⟨rfl, Or.inr ⟨_, rfl⟩⟩))
  | 18, _ => exact Or.inr (Or.inr (Or.inr ⟨rfl, Or.inr ⟨_, rfl⟩⟩))
  | 19, _ => exact Or.inr (Or.inr (Or.inr ⟨rfl, Or.inr ⟨_, rfl⟩⟩))
  | 20, _ => exact Or.inr (Or.inr (Or.inr ⟨rfl, Or.inr ⟨_, rfl⟩⟩))
  | 21, _ => exact Or.inr (Or.inr (Or.inr ⟨rfl, Or.inr ⟨_, rfl⟩⟩))
  | 22, _ => exact Or.inr (Or.inr (Or.inr ⟨rfl, Or.inr ⟨_, rfl⟩⟩))
  | 23, _ => exact Or.inr (Or.inr (Or.inr ⟨rfl, Or.inr ⟨_, rfl⟩⟩))
  | 24, _ => exact Or.inl ⟨rfl, rfl⟩
  | 25, _ => exact Or.inl ⟨rfl, rfl⟩
  | 26, _ => exact Or.inl ⟨rfl, rfl⟩
  | 27, _ => exact Or.inr (Or.inr (Or.inr ⟨rfl, Or.inr ⟨_, rfl⟩⟩))
  | 28, _ => exact Or.inr (Or.inr (Or.inr ⟨rfl, Or.inr ⟨_, rfl⟩⟩))
  | 29, _ => exact Or.inl ⟨rfl, rfl⟩
  | 30, _ => exact Or.inr (Or.inr (Or.inr ⟨rfl, Or.inr ⟨_, rfl⟩⟩))
  | 31, _ => exact Or.inr (Or.inr (Or.inr ⟨rfl, Or.inr ⟨_, rfl⟩⟩))
  | 32, _ => exact Or.inr (Or.inr (Or.inr ⟨rfl, Or.inr ⟨_, rfl⟩⟩))
  | 33, _ => exact Or.inr (Or.inr (Or.inr ⟨rfl, Or.inr ⟨_, rfl⟩⟩))
  | 34, _ => exact Or.inl ⟨rfl, rfl⟩
  | 35, _ => exact Or.inl ⟨rfl, rfl⟩
  | 36, _ => exact Or.inr (Or.inr (Or.inr ⟨rfl, Or.inr ⟨_, rfl⟩⟩))
  | 37, _ => exact Or.inr (Or.inr (Or.inr ⟨rfl, Or.inr ⟨_, rfl⟩⟩))
  | 38, _ => exact Or.inr (Or.inr (Or.inr ⟨rfl, Or.inr ⟨_, rfl⟩⟩))
  | 39, _ => exact Or.inr (Or.inr (Or.inr ⟨rfl, Or.inr ⟨_, rfl⟩⟩))
  | 40, _ => exact Or.inr (Or.inr (Or.inr ⟨rfl, Or.inr ⟨_, rfl⟩⟩))
  | 41, _ => exact Or.inr (Or.inr (Or.inr ⟨rfl, Or.inr ⟨_, rfl⟩⟩))
  | 42, _ => exact Or.inr (Or.inr (Or.inr ⟨rfl, Or.inr ⟨_, rfl⟩⟩))
  | 43, _ => exact Or.inr (Or.inr (Or.inr ⟨rfl, Or.inr ⟨_, rfl⟩⟩))
  | 44, _ => exact Or.inr (Or.inl ⟨rfl, rfl⟩)
  | 45, _ => exact Or.inr (Or.inl ⟨rfl, rfl⟩)
  | 46, _ => exact Or.inr (Or.inl ⟨rfl, rfl⟩)
  | 47, _ => exact Or.inl ⟨rfl, rfl⟩
  | 48, _ => exact Or.inr (Or.inr (Or.inr ⟨rfl, Or.inr ⟨_, rfl⟩⟩))
  | 49, _ => exact Or.inl ⟨rfl, rfl⟩
  | 50, _ => exact Or.inr (Or.inr (Or.inr ⟨rfl, Or.inr ⟨_, rfl⟩⟩))
  | 51, _ => exact Or.inr (Or.inr (Or.inl ⟨rfl, rfl⟩))
  | 52, _ => exact Or.inl ⟨rfl, rfl⟩
  | 53, _ => exact Or.inl ⟨rfl, rfl⟩
  | 54, _ => exact Or.inl ⟨rfl, rfl⟩
  | 55, _ => exact Or.inl ⟨rfl, rfl⟩
  | 56, _ => exact Or.inl ⟨rfl, rfl⟩
  | 57, _ => exact Or.inl ⟨rfl, rfl⟩
  | 58, _ => exact Or.inl ⟨rfl, rfl⟩
  | 59, _ => exact Or.inl ⟨rfl, rfl⟩
  | 60, _ => exact Or.inl ⟨rfl, rfl⟩
  | 61, _ => exact Or.inl ⟨rfl, rfl⟩
  | 62, _ => exact Or.inr (Or.inr (Or.inr ⟨rfl, Or.inr ⟨_, rfl⟩⟩))
  | 63, _ => exact Or.inl ⟨rfl, rfl⟩
  | 64, _ => exact Or.inr (Or.inr (Or.inr ⟨rfl, Or.inr ⟨_, rfl⟩⟩))
  | 65, _ => exact Or.inr (Or.inr (Or.inr ⟨rfl, Or.inr ⟨_, rfl⟩⟩))
  | 66, _ => exact Or.inr (Or.inr (Or.inr ⟨rfl, Or.inr ⟨_, rfl⟩⟩))
  | 67, _ => exact Or.inr (Or.inr (Or.inr ⟨rfl, Or.inr ⟨_, rfl⟩⟩))
  | 68, _ => exact Or.inr (Or.inr (Or.inr ⟨rfl, Or.inr ⟨_, rfl⟩⟩))
  | k + 69, hk => omega

theorem aTab_ok : aTab vwCl aFk aTs := by
  intro ci C T N h
  match ci, h with
  | 0, h => cases h; exact ⟨inT0, nmX0, tyX0, tyX0_ok, fun k hk => tk0 k hk⟩
  | 1, h => cases h; exact ⟨inT1, nmX1, tyX1, tyX1_ok, fun k hk => tk1 k hk⟩
  | 2, h => cases h; exact ⟨inT2, nmX2, tyX2, tyX2_ok, fun k hk => tk2 k hk⟩
  | 3, h => cases h; exact ⟨inT3, nmX3, tyX3, tyX3_ok, fun k hk => tk3 k hk⟩
  | 4, h => cases h; exact ⟨inT4, nmX4, tyX4, tyX4_ok, fun k hk => tk4 k hk⟩
  | 5, h => cases h; exact ⟨inT5, nmX5, tyX5, tyX5_ok, fun k hk => tk5 k hk⟩
  | 6, h => cases h; exact ⟨inT6, nmX6, tyX6, tyX6_ok, fun k hk => tk6 k hk⟩
  | ci + 7, h => cases h
def aSlen : List Nat := [3, 5, 5, 5]
theorem beq_f {i n : Nat} (h : i ≠ n) : Nat.beq i n = false := by
  cases hb : Nat.beq i n with
  | false => rfl
  | true => exact absurd (Nat.eq_of_beq_eq_true hb) h
theorem ak0_st : ∀ k, k < 4 → (ak0 (2100 + k)).2 = aSlen.getD k 0 := by decide +kernel
theorem aZ0_st {xs : Nat → Int32} {k j : Nat} : (aZ0 xs).1 (2100 + k) j = (azS.getD k []).getD j 0 := by
  unfold aZ0
  dsimp only
  rw [beq_f (show 2100 + k ≠ 1003 by omega), beq_f (show 2100 + k ≠ 1000 by omega), beq_f (show 2100 + k ≠ 1001 by omega), Nat.add_sub_cancel_left]
  rfl
theorem aTys_ok (cy : Nat → ClassId) : aTys cy (aTyl cy) := ⟨rfl, rfl, rfl, ⟨_, rfl⟩, ⟨_, rfl⟩, ⟨_, rfl⟩⟩
theorem aSF_far {fv : Value} (hfv : fv = .null ∨ fv = .ref 3000) : ∀ q ∈ aSF fv, ∀ i, q.2.2.2 = .ref i → 1000 ≤ i := by
  refine List.forall_mem_cons.mpr ⟨?_, List.forall_mem_cons.mpr ⟨?_, List.forall_mem_cons.mpr ⟨?_, List.forall_mem_cons.mpr ⟨?_, List.forall_mem_cons.mpr ⟨?_, fun _ h => absurd h List.not_mem_nil⟩⟩⟩⟩⟩ <;> intro i hi
  · cases hi; decide
  · cases hi; decide
  · cases hi; decide
  · cases hi
  · rcases hfv with rfl | rfl <;> cases hi; decide
theorem akd_st {L i k : Nat} (hk : (akd L i).1 = k) : (k = 13 → i = 1000 ∨ i = 1001 ∨ i = 1003) ∧ (k = 14 → i = 1002) ∧ (k = 15 → ∃ j, j < 4 ∧ i = 2000 + j) ∧ (k = 16 → ∃ j, j < 4 ∧ i = 2100 + j) := by
  by_cases h : i = 1003
  · subst h
    have e : k = 13 := hk.symm
    subst e
    exact ⟨fun _ => Or.inr (Or.inr rfl), fun h => by omega, fun h => by omega, fun h => by omega⟩
  · rw [akd_ne h] at hk
    by_cases h1 : 1000 ≤ i
    · unfold ak0 at hk
      rw [blt_f (show 111 ≤ i by omega), blt_f (show 141 ≤ i by omega), blt_f h1] at hk
      simp only [cond_false] at hk
      have nb : ∀ a : Nat, Nat.beq i a = decide (i = a) := fun a => by
        cases hb : Nat.beq i a with
        | true => simp [Nat.eq_of_beq_eq_true hb]
        | false => simp [Nat.ne_of_beq_eq_false hb]
      simp only [nb, Bool.cond_decide, ← Bool.decide_or] at hk
      refine ⟨fun e => ?_, fun e => ?_, fun e => ?_, fun e => ?_⟩ <;> subst e <;> (repeat' split at hk) <;> first | omega | (exact absurd hk (by decide)) | skip
      all_goals first | exact ⟨i - 2000, by omega, by omega⟩ | exact ⟨i - 2100, by omega, by omega⟩
    · have : (ak0 i).1 < 13 := by
        by_cases h2 : i < 141
        · exact (ak0_small i h2).1
        · rw [ak0_mid (by omega) (by omega)]; decide
      exact ⟨fun e => by omega, fun e => by omega, fun e => by omega, fun e => by omega⟩
theorem aArrP {s : State} {args : Array Value} {ty : FieldType} (hp : refKind ty = false) (h : (Cond.arrayClass ty).before args s = true) : ∃ cA : ClassId, ArrOfT s cA ty ∧ va_RA s cA ty := by
  obtain ⟨cA, kA, comp, h1, h2, h3⟩ := Cond.arrayClass_spec h
  refine ⟨cA, fun n z => ⟨fun k h => (by cases h), kA, h2, comp, h3⟩, ?_⟩
  cases ty <;> first | exact h1 | cases hp
theorem aArrO {s : State} {args : Array Value} {C : String} (h : (Cond.arrayOver (.object C)).before args s = true) : ∃ cA : ClassId, ArrOfT s cA (.object C) ∧ va_RA s cA (.object C) := by
  obtain ⟨comp, cA, kA, h1, h2, h3, h4, h5⟩ := Cond.arrayOver_spec h
  exact ⟨cA, fun n z => ⟨fun k h => (by cases h), kA, h3, comp, h4⟩, kA, comp, h3, h4, h1, h5⟩
abbrev aNar : Jvm.Cond := Jvm.Cond.and given_1 narrow_1
theorem fA : ∀ j, j < 7 → Cond.eq (.elem (.static "NineSails" "ABOVE" "[I") (.int (Int32.ofNat j))) (.int (azA.getD j 0)) ∈ flatC aNar := by decide +kernel
theorem fB : ∀ j, j < 21 → Cond.eq (.elem (.static "NineSails" "BODIES" "[I") (.int (Int32.ofNat j))) (.int (azB.getD j 0)) ∈ flatC aNar := by decide +kernel
theorem fW : ∀ j, j < 5 → Cond.eq (.elem (.static "NineSails" "WHOLE_ODDS" "[J") (.int (Int32.ofNat j))) (.long (azW.getD j 0)) ∈ flatC aNar := by decide +kernel
def aSt4 (i : Nat) : Term := .string "NineSails$Reader" (73 + 2 * i)
theorem fS1 : ∀ i, i < 4 → Cond.exactly (aSt4 i) "java/lang/String" ∈ flatC aNar ∧ Cond.eq (.field (aSt4 i) "java/lang/String" "coder" "B") (.int 0) ∈ flatC aNar ∧ Cond.arrayOf (.field (aSt4 i) "java/lang/String" "value" "[B") .byte ∈ flatC aNar ∧ Cond.eq (.length (.field (aSt4 i) "java/lang/String" "value" "[B")) (.int (Int32.ofNat (aSlen.getD i 0))) ∈ flatC aNar := by decide +kernel
theorem fS2 : ∀ i, i < 4 → ∀ j, j < aSlen.getD i 0 → Cond.eq (.elem (.field (aSt4 i) "java/lang/String" "value" "[B") (.int (Int32.ofNat j))) (.int ((azS.getD i []).getD j 0)) ∈ flatC aNar := by decide +kernel
theorem fS3 : ∀ i, i < 4 → ∀ j, j < 4 → i ≠ j → Cond.not (Cond.eq (aSt4 i) (aSt4 j)) ∈ flatC aNar ∨ Cond.not (Cond.eq (aSt4 j) (aSt4 i)) ∈ flatC aNar := by decide +kernel
set_option maxHeartbeats 4000000 in
theorem aWhole (hpure : aPure) {p : Program} {e : Env} {s : State} {m : MethodId} {below : List Frame} {meth : Method} {c : Code} (l : Launch) {b L : Nat} {xs : Nat → Int32} (hL : L ≤ 3072) (C0 : lw_At p s m meth c b L xs) : W p l e room_1 s m #[Value.ref b] below meth c s.heap [] 0 0 (lw_Z below #[Value.ref b] s) (entryFrame m ([Value.ref b] : List Value).toArray 4) := by
  obtain ⟨hx, hb, hr, hml, hown, htl, hX, hbl, hlocks, hgv⟩ := id C0
  have hts : ∀ w ∈ aTs, w.before #[Value.ref b] s = true := fun w h => htl w (aTs_tbl w h)
  have hs : ∀ c ∈ flatC aNar, c.before #[Value.ref b] s = true := flat_of_before _ hgv
  have hA0 : ∀ a : Nat, a < s.heap.size → ¬ (fun q : Nat => s.heap.size ≤ q) a := fun a h => Nat.not_le.mpr h
  have hKe : ∀ k : Nat, ∃ q : ClassId × (Nat → Nat), ∀ z, vwCl[k]? = some z → u_Kn s z.1 z.2.1 z.2.2 q.1 q.2 := by
    intro k
    match k with
    | 0 => obtain ⟨c0, i0, h⟩ := u_known (C := RX0) (T := TX0) (N := 9) (n := 9) hts inT0 (hts _ (aIn1 101 rfl rfl)); exact ⟨(c0, i0), fun z hz => by cases hz; exact h⟩
    | 1 => obtain ⟨c0, i0, h⟩ := u_known (C := RX1) (T := TX1) (N := 5) (n := 5) hts inT1 (hts _ (aIn1 77 rfl rfl)); exact ⟨(c0, i0), fun z hz => by cases hz; exact h⟩
    | 2 => obtain ⟨c0, i0, h⟩ := u_known (C := RX2) (T := TX2) (N := 5) (n := 5) hts inT2 (hts _ (aIn1 149 rfl rfl)); exact ⟨(c0, i0), fun z hz => by cases hz; exact h⟩
    | 3 => obtain ⟨c0, i0, h⟩ := u_known (C := RX3) (T := TX3) (N := 11) (n := 11) hts inT3 (hts _ (aIn1 25 rfl rfl)); exact ⟨(c0, i0), fun z hz => by cases hz; exact h⟩
    | 4 => obtain ⟨c0, i0, h⟩ := u_known (C := RX4) (T := TX4) (N := 3) (n := 3) hts inT4 (hts _ (aIn1 180 rfl rfl)); exact ⟨(c0, i0), fun z hz => by cases hz; exact h⟩
    | 5 => obtain ⟨c0, i0, h⟩ := u_known (C := RX5) (T := TX5) (N := 19) (n := 19) hts inT5 (hts _ (aIn1 17 rfl rfl)); exact ⟨(c0, i0), fun z hz => by cases hz; exact h⟩
    | 6 => obtain ⟨c0, i0, h⟩ := u_known (C := RX6) (T := TX6) (N := 69) (n := 69) hts inT6 (hts _ (aIn3 184 rfl rfl)); exact ⟨(c0, i0), fun z hz => by cases hz; exact h⟩
    | k + 7 => exact ⟨(0, fun _ => 0), fun z hz => by cases hz⟩
  obtain ⟨dq, hKc⟩ := Classical.axiomOfChoice hKe
  obtain ⟨cI, hI⟩ := aArrP (s := s) (args := #[Value.ref b]) (ty := .int) rfl (htl _ (aLt1 (List.mem_of_getElem? (i := 75) rfl)))
  obtain ⟨cJ, hJ⟩ := aArrP (s := s) (args := #[Value.ref b]) (ty := .long) rfl (htl _ (aLt1 (List.mem_of_getElem? (i := 198) rfl)))
  obtain ⟨cZ, hZ⟩ := aArrP (s := s) (args := #[Value.ref b]) (ty := .boolean) rfl (htl _ (aLt4 (List.mem_of_getElem? (i := 157) rfl)))
  obtain ⟨cR, hR⟩ := aArrO (s := s) (args := #[Value.ref b]) (C := "NineSails$Race") (htl _ (aLt1 (List.mem_of_getElem? (i := 100) rfl)))
  obtain ⟨cU, hU⟩ := aArrO (s := s) (args := #[Value.ref b]) (C := "NineSails$Rule") (htl _ (aLt1 (List.mem_of_getElem? (i := 148) rfl)))
  obtain ⟨cT, hT⟩ := aArrO (s := s) (args := #[Value.ref b]) (C := "NineSails$Tape") (htl _ (aLt1 (List.mem_of_getElem? (i := 179) rfl)))
  obtain ⟨cy, hcy⟩ : ∃ cy : Nat → ClassId, cy 7 = cI ∧ cy 8 = cJ ∧ cy 9 = cZ ∧ cy 10 = cR ∧ cy 11 = cU ∧ cy 12 = cT := ⟨fun k => if k = 7 then cI else if k = 8 then cJ else if k = 9 then cZ else if k = 10 then cR else if k = 11 then cU else cT, rfl, rfl, rfl, rfl, rfl, rfl⟩
  obtain ⟨rfl, rfl, rfl, rfl, rfl, rfl⟩ := hcy
  have hK : va_K (fun k => (dq k).1, fun k => (dq k).2) vwCl (aTyl cy) s := by
    refine ⟨fun k q hq => hKc k q hq, fun k q hq => ?_⟩
    match k, hq with
    | 0, hq => cases hq; exact hI
    | 1, hq => cases hq; exact hJ
    | 2, hq => cases hq; exact hZ
    | 3, hq => cases hq; exact hR
    | 4, hq => cases hq; exact hU
    | 5, hq => cases hq; exact hT
    | k + 6, hq => cases hq
  obtain ⟨tA, eA, TA⟩ := va_Tof (tm := .static "NineSails" "ABOVE" "[I") (ty := .int) (N := 7) (f := fun j => .int (azA.getD j 0)) (A := fun q : Nat => s.heap.size ≤ q) (by decide) (hs _ (by decide +kernel)) (va_eqt (hs _ (by decide +kernel))) (fun j hj => va_eqt (hs _ (fA j hj))) hA0
  have ZA := va_Zof (A := fun q : Nat => s.heap.size ≤ q) (htl _ (aLt3 (List.mem_of_getElem? (i := 139) rfl))) (htl _ (aLt1 (List.mem_of_getElem? (i := 1) rfl))) eA hA0
  obtain ⟨tB, eB, TB⟩ := va_Tof (tm := .static "NineSails" "BODIES" "[I") (ty := .int) (N := 21) (f := fun j => .int (azB.getD j 0)) (A := fun q : Nat => s.heap.size ≤ q) (by decide) (hs _ (by decide +kernel)) (va_eqt (hs _ (by decide +kernel))) (fun j hj => va_eqt (hs _ (fB j hj))) hA0
  have ZB := va_Zof (A := fun q : Nat => s.heap.size ≤ q) (htl _ (aLt3 (List.mem_of_getElem? (i := 137) rfl))) (htl _ (aLt1 (List.mem_of_getElem? (i := 1) rfl))) eB hA0
  obtain ⟨tW, eW, TW⟩ := va_Tof (tm := .static "NineSails" "WHOLE_ODDS" "[J") (ty := .long) (N := 5) (f := fun j => .long (azW.getD j 0)) (A := fun q : Nat => s.heap.size ≤ q) (by decide) (hs _ (by decide +kernel)) (va_eqt (hs _ (by decide +kernel))) (fun j hj => va_eqtl (hs _ (fW j hj))) hA0
  have ZW := va_Zof (A := fun q : Nat => s.heap.size ≤ q) (htl _ (aLt3 (List.mem_of_getElem? (i := 47) rfl))) (htl _ (aLt1 (List.mem_of_getElem? (i := 1) rfl))) eW hA0
  have ZC := va_Zof (A := fun q : Nat => s.heap.size ≤ q) (htl _ (aLt2 (List.mem_of_getElem? (i := 105) rfl))) (htl _ (aLt1 (List.mem_of_getElem? (i := 10) rfl))) (va_eqi (z := 1) (hs (Cond.eq (.static "java/lang/String" "COMPACT_STRINGS" "Z") (.int 1)) (by decide +kernel))) hA0
  have ZF := va_Zqof (A := fun q : Nat => s.heap.size ≤ q) (htl _ (aLt2 (List.mem_of_getElem? (i := 121) rfl))) (htl _ (aLt1 (List.mem_of_getElem? (i := 12) rfl))) (hs (Cond.isRef (.static "jdk/internal/util/Preconditions" "SIOOBE_FORMATTER" "Ljava/util/function/BiFunction;")) (by decide +kernel)) hA0
  obtain ⟨adK, adV, SS, eS⟩ := vk_Sof (s := s) (args := #[Value.ref b]) (N := 4) (tm := aSt4) (len := aSlen) (byt := azS) (A := fun q : Nat => s.heap.size ≤ q) (by decide) (fun i hi => hs _ (fS1 i hi).1) (fun i hi => hs _ (fS1 i hi).2.1) (fun i hi => hs _ (fS1 i hi).2.2.1) (fun i hi => hs _ (fS1 i hi).2.2.2) (fun i hi j hj => hs _ (fS2 i hi j hj)) (fun i j hi hj hij => (fS3 i hi j hj hij).imp (hs _) (hs _)) hA0
  have TX : va_T .int b L (fun j => .int (xs j)) (fun q : Nat => s.heap.size ≤ q) s s.heap := by
    obtain ⟨scr, h1, h2, h3, h4, h5⟩ := hX
    exact ⟨scr, h1, h2, h3, Nat.le_of_eq h4.symm, by rw [h4], h5, Nat.not_le.mpr hbl⟩
  obtain ⟨fv, tF, hfv, ZF⟩ : ∃ (fv : Value) (tF : Nat), (fv = .null ∨ fv = .ref 3000) ∧ va_Z "jdk/internal/util/Preconditions" "SIOOBE_FORMATTER" "Ljava/util/function/BiFunction;" (aTr (fun _ => tF) fv) (fun q : Nat => s.heap.size ≤ q) s s.heap := by
    rcases ZF with h | ⟨t, h⟩
    · exact ⟨.null, 0, Or.inl rfl, h⟩
    · exact ⟨.ref 3000, t, Or.inr rfl, h⟩
  obtain ⟨adS, g0, g1, g2, g3, gF, gK, gV⟩ : ∃ adS : Nat → Nat, adS 1000 = tA ∧ adS 1001 = tB ∧ adS 1002 = tW ∧ adS 1003 = b ∧ adS 3000 = tF ∧ (∀ i, i < 4 → adS (2000 + i) = adK i) ∧ (∀ i, i < 4 → adS (2100 + i) = adV i) :=
    ⟨fun i => if i = 1000 then tA else if i = 1001 then tB else if i = 1002 then tW else if i = 1003 then b else if i = 3000 then tF else if i < 2100 then adK (i - 2000) else adV (i - 2100), rfl, rfl, rfl, rfl, rfl,
      fun i hi => by dsimp only; rw [if_neg (by omega), if_neg (by omega), if_neg (by omega), if_neg (by omega), if_neg (by omega), if_pos (by omega), Nat.add_sub_cancel_left],
      fun i hi => by dsimp only; rw [if_neg (by omega), if_neg (by omega), if_neg (by omega), if_neg (by omega), if_neg (by omega), if_neg (by omega), Nat.add_sub_cancel_left]⟩
  have hSt : aSt (akd L) (aZ0 xs) (aSF fv) aSK aNW aAO adS (fun q : Nat => s.heap.size ≤ q) s s.heap := by
    refine ⟨?_, ?_, ?_, ?_, ?_, ?_, ?_, ?_⟩
    · refine List.forall_mem_cons.mpr ⟨?_, List.forall_mem_cons.mpr ⟨?_, List.forall_mem_cons.mpr ⟨?_, List.forall_mem_cons.mpr ⟨?_, List.forall_mem_cons.mpr ⟨?_, fun _ h => absurd h List.not_mem_nil⟩⟩⟩⟩⟩
      · show va_Z _ _ _ (.ref (adS 1000)) _ _ _; rw [g0]; exact ZA
      · show va_Z _ _ _ (.ref (adS 1001)) _ _ _; rw [g1]; exact ZB
      · show va_Z _ _ _ (.ref (adS 1002)) _ _ _; rw [g2]; exact ZW
      · exact ZC
      · rcases hfv with rfl | rfl
        · exact ZF
        · show va_Z _ _ _ (.ref (adS 3000)) _ _ _; rw [gF]; exact ZF
    · intro i hi
      have hi' := akd_st hi
      rcases hi'.1 rfl with rfl | rfl | rfl
      · rw [g0]; exact TA
      · rw [g1]; exact TB
      · rw [g3]; exact TX
    · intro i hi
      have hi' := akd_st hi
      cases hi'.2.1 rfl
      rw [g2]; exact TW
    · exact (List.forall_mem_cons.mpr ⟨va_Nw.of rfl (htl _ (aLt1 (List.mem_of_getElem? (i := 26) rfl))), (List.forall_mem_cons.mpr ⟨va_Nw.of rfl (htl _ (aLt1 (List.mem_of_getElem? (i := 78) rfl))), (List.forall_mem_cons.mpr ⟨va_Nw.of rfl (htl _ (aLt1 (List.mem_of_getElem? (i := 181) rfl))), (List.forall_mem_cons.mpr ⟨va_Nw.of rfl (htl _ (aLt2 (List.mem_of_getElem? (i := 152) rfl))), (fun _ h => absurd h List.not_mem_nil)⟩)⟩)⟩)⟩)
    · exact (List.forall_mem_cons.mpr ⟨va_AO.of (htl _ (aLt1 (List.mem_of_getElem? (i := 100) rfl))), (List.forall_mem_cons.mpr ⟨va_AO.of (htl _ (aLt1 (List.mem_of_getElem? (i := 148) rfl))), (List.forall_mem_cons.mpr ⟨va_AO.of (htl _ (aLt1 (List.mem_of_getElem? (i := 179) rfl))), (fun _ h => absurd h List.not_mem_nil)⟩)⟩)⟩)
    · exact (List.forall_mem_cons.mpr ⟨(show vk_R "NineSails$Reader" 73 "go " (adS (2000 + 0)) s by rw [gK 0 (by decide)]; exact vk_R.of (A := #[Value.ref b]) (htl _ (aLt2 (List.mem_of_getElem? (i := 88) rfl))) (eS 0 (by decide))), (List.forall_mem_cons.mpr ⟨(show vk_R "NineSails$Reader" 75 "tear " (adS (2000 + 1)) s by rw [gK 1 (by decide)]; exact vk_R.of (A := #[Value.ref b]) (htl _ (aLt2 (List.mem_of_getElem? (i := 89) rfl))) (eS 1 (by decide))), (List.forall_mem_cons.mpr ⟨(show vk_R "NineSails$Reader" 77 "lose " (adS (2000 + 2)) s by rw [gK 2 (by decide)]; exact vk_R.of (A := #[Value.ref b]) (htl _ (aLt2 (List.mem_of_getElem? (i := 90) rfl))) (eS 2 (by decide))), (List.forall_mem_cons.mpr ⟨(show vk_R "NineSails$Reader" 79 "wind " (adS (2000 + 3)) s by rw [gK 3 (by decide)]; exact vk_R.of (A := #[Value.ref b]) (htl _ (aLt2 (List.mem_of_getElem? (i := 91) rfl))) (eS 3 (by decide))), (fun _ h => absurd h List.not_mem_nil)⟩)⟩)⟩)⟩)
    · intro i hi
      obtain ⟨k, hk, rfl⟩ := (akd_st hi).2.2.1 rfl
      rw [gK k hk, show 2000 + k + 100 = 2100 + k by omega, gV k hk]
      exact ⟨(SS.1 k hk).1, (SS.1 k hk).2.1, (SS.1 k hk).2.2.1⟩
    · intro i hi
      obtain ⟨k, hk, rfl⟩ := (akd_st hi).2.2.2 rfl
      have h9 := (SS.1 k hk).2.2.2
      rw [← gV k hk] at h9
      rw [akd_ne (by omega), ak0_st k hk]
      simp only [aZ0_st]
      exact h9
  obtain ⟨F, hh, hrun, hle⟩ := hpure L xs fv hfv hL
  have hm0 : ∀ d, aXm l (fun k => (dq k).1, fun k => (dq k).2) vwCl (aTyl cy) (akd L) aFk cy (aZ0 xs) (aSF fv) aSK aNW aAO aTs mtN d (aEx (akd L) (aZ0 xs) 0 aMl (cds fv) d) :=
    aMet aTs_good aTab_ok (akd_7 L) (by decide) (aTys_ok cy) (aSF_far hfv) (by decide) (akd_20 L) (akd_13 L) (fun _ => rfl) (aAll_ok fv cy)
  rw [lg_entry_eq]
  have hl := lv_entry ([.ref b]) (n := 4) (Nat.le_of_ble_eq_true rfl)
  have k := aRun_sound (p := p) (l := l) (e := e) (meth := meth) (R := room_1) (below := below) (n0 := 0) (nS := 0) (dd := 40) (own := R_law) (ini := false) (ret := some .boolean) (A := fun q : Nat => s.heap.size ≤ q) (Q := lw_Z below #[Value.ref b] s) hx hb hml hts aTs_good aTab_ok (akd_7 L) (by decide) hown (fun q => by cases q) hK (aTys_ok cy) (aSF_far hfv) (by decide) (akd_20 L) (akd_13 L) (hm0 40) (aEx_h 40) (cd := cd187) (gd187 fv cy) (fun _ h => h) hSt (rv := some (.int 1)) (hh := hh)
    ⟨by decide, Nat.le_trans (Nat.sub_le _ _) (Nat.le_trans hle (by decide)), Nat.le_trans (Nat.sub_le _ _) (Nat.le_trans (akd_zs L hle) (Nat.le_of_ble_eq_true rfl)), by decide⟩
    (fun pc t ls ad wv ins hdec hret e1 h1 e2 hext hsame => by
      subst e2
      cases ins with
      | ireturn =>
        cases e1
        intro H locs L1 hP hD hS hl
        refine va_forget (fun q hq => hS.2.2 q hq) ?_
        refine W.widen (k := 617840) (n := 7248727) (Nat.le_trans (Nat.sub_le _ _) (Nat.le_trans hle (by decide))) (Nat.le_trans (Nat.sub_le _ _) (Nat.le_trans (akd_zs L hle) (Nat.le_of_ble_eq_true rfl))) ?_
        exact lw_ret hx hb hr hlocks hdec
      | lreturn => obtain ⟨x, e3, -⟩ := hret; rw [← e1] at e3; cases e3
      | areturn => obtain ⟨e3 | ⟨x, e3⟩, -⟩ := hret <;> rw [← e1] at e3 <;> cases e3
      | return_ => obtain ⟨e3, -⟩ := hret; rw [← e1] at e3; cases e3
      | _ => exact hret.elim) F _ adS hrun (Nat.le_refl _) (Nat.le_refl _) (fun i k j hi => absurd hi (Nat.not_lt_zero _)) (fun _ _ => rfl) (fun _ => rfl)
  have hP : va_P (fun k => (dq k).1, fun k => (dq k).2) vwCl (aWd (akd L) aFk cy adS aH0) s.heap := fun k q h => by simp [aWd, aH0] at h
  have hD : va_D (fun q : Nat => s.heap.size ≤ q) (aWd (akd L) aFk cy adS aH0) := ⟨fun i j p q h => by simp [aWd, aH0] at h, fun k q h => by simp [aWd, aH0] at h⟩
  refine k s.heap [] _ hP hD va_S.rf ?_
  rw [show aTl adS [(0, .ref 1003)] = [(0, Value.ref b)] by simp [aTl, aTr, g3]]
  exact hl
