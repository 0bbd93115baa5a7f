/-! rows for each class and field, copies, Math, static rows -/
theorem cf_0 : CF 0 RX0 TX0 1 tyX0 := ⟨rfl, List.forall_mem_cons.mpr ⟨tw_2_72, fun _ h => absurd h List.not_mem_nil⟩, tyX0_ok, nmX0⟩
theorem cf_1 : CF 1 RX1 TX1 11 tyX1 := ⟨rfl, List.forall_mem_cons.mpr ⟨tw_1_197, List.forall_mem_cons.mpr ⟨tw_1_199, List.forall_mem_cons.mpr ⟨tw_1_201, List.forall_mem_cons.mpr ⟨tw_1_203, List.forall_mem_cons.mpr ⟨tw_1_205, List.forall_mem_cons.mpr ⟨tw_1_207, List.forall_mem_cons.mpr ⟨tw_1_209, List.forall_mem_cons.mpr ⟨tw_1_211, List.forall_mem_cons.mpr ⟨tw_1_213, List.forall_mem_cons.mpr ⟨tw_1_215, List.forall_mem_cons.mpr ⟨tw_1_217, fun _ h => absurd h List.not_mem_nil⟩⟩⟩⟩⟩⟩⟩⟩⟩⟩⟩, tyX1_ok, nmX1⟩
theorem cf_2 : CF 2 RX2 TX2 14 tyX2 := ⟨rfl, List.forall_mem_cons.mpr ⟨tw_1_128, List.forall_mem_cons.mpr ⟨tw_1_130, List.forall_mem_cons.mpr ⟨tw_1_132, List.forall_mem_cons.mpr ⟨tw_1_134, List.forall_mem_cons.mpr ⟨tw_1_136, List.forall_mem_cons.mpr ⟨tw_1_138, List.forall_mem_cons.mpr ⟨tw_1_140, List.forall_mem_cons.mpr ⟨tw_1_142, List.forall_mem_cons.mpr ⟨tw_1_144, List.forall_mem_cons.mpr ⟨tw_1_146, List.forall_mem_cons.mpr ⟨tw_1_148, List.forall_mem_cons.mpr ⟨tw_1_150, List.forall_mem_cons.mpr ⟨tw_1_152, List.forall_mem_cons.mpr ⟨tw_1_154, fun _ h => absurd h List.not_mem_nil⟩⟩⟩⟩⟩⟩⟩⟩⟩⟩⟩⟩⟩⟩, tyX2_ok, nmX2⟩
theorem cf_3 : CF 3 RX3 TX3 3 tyX3 := ⟨rfl, List.forall_mem_cons.mpr ⟨tw_2_56, List.forall_mem_cons.mpr ⟨tw_2_58, List.forall_mem_cons.mpr ⟨tw_2_60, fun _ h => absurd h List.not_mem_nil⟩⟩⟩, tyX3_ok, nmX3⟩
theorem cf_4 : CF 4 RX4 TX4 12 tyX4 := ⟨rfl, List.forall_mem_cons.mpr ⟨tw_2_18, List.forall_mem_cons.mpr ⟨tw_2_20, List.forall_mem_cons.mpr ⟨tw_2_22, List.forall_mem_cons.mpr ⟨tw_2_24, List.forall_mem_cons.mpr ⟨tw_2_26, List.forall_mem_cons.mpr ⟨tw_2_28, List.forall_mem_cons.mpr ⟨tw_2_30, List.forall_mem_cons.mpr ⟨tw_2_32, List.forall_mem_cons.mpr ⟨tw_2_34, List.forall_mem_cons.mpr ⟨tw_2_36, List.forall_mem_cons.mpr ⟨tw_2_38, List.forall_mem_cons.mpr ⟨tw_2_40, fun _ h => absurd h List.not_mem_nil⟩⟩⟩⟩⟩⟩⟩⟩⟩⟩⟩⟩, tyX4_ok, nmX4⟩
theorem cf_5 : CF 5 RX5 TX5 5 tyX5 := ⟨rfl, List.forall_mem_cons.mpr ⟨tw_1_71, List.forall_mem_cons.mpr ⟨tw_1_73, List.forall_mem_cons.mpr ⟨tw_1_75, List.forall_mem_cons.mpr ⟨tw_1_77, List.forall_mem_cons.mpr ⟨tw_1_79, fun _ h => absurd h List.not_mem_nil⟩⟩⟩⟩⟩, tyX5_ok, nmX5⟩
theorem cf_6 : CF 6 RX6 TX6 9 tyX6 := ⟨rfl, List.forall_mem_cons.mpr ⟨tw_2_92, List.forall_mem_cons.mpr ⟨tw_2_94, List.forall_mem_cons.mpr ⟨tw_2_96, List.forall_mem_cons.mpr ⟨tw_2_98, List.forall_mem_cons.mpr ⟨tw_2_100, List.forall_mem_cons.mpr ⟨tw_2_102, List.forall_mem_cons.mpr ⟨tw_2_104, List.forall_mem_cons.mpr ⟨tw_2_106, List.forall_mem_cons.mpr ⟨tw_2_108, fun _ h => absurd h List.not_mem_nil⟩⟩⟩⟩⟩⟩⟩⟩⟩, tyX6_ok, nmX6⟩
theorem cf_7 : CF 7 RX7 TX7 13 tyX7 := ⟨rfl, List.forall_mem_cons.mpr ⟨tw_2_148, List.forall_mem_cons.mpr ⟨tw_2_150, List.forall_mem_cons.mpr ⟨tw_2_152, List.forall_mem_cons.mpr ⟨tw_2_154, List.forall_mem_cons.mpr ⟨tw_2_156, List.forall_mem_cons.mpr ⟨tw_2_158, List.forall_mem_cons.mpr ⟨tw_2_160, List.forall_mem_cons.mpr ⟨tw_2_162, List.forall_mem_cons.mpr ⟨tw_2_164, List.forall_mem_cons.mpr ⟨tw_2_166, List.forall_mem_cons.mpr ⟨tw_2_168, List.forall_mem_cons.mpr ⟨tw_2_170, List.forall_mem_cons.mpr ⟨tw_2_172, fun _ h => absurd h List.not_mem_nil⟩⟩⟩⟩⟩⟩⟩⟩⟩⟩⟩⟩⟩, tyX7_ok, nmX7⟩
theorem gr_0_0 (G : Gx) (ad : Ad) (o : Nat) : ∀ a, ∃ fs, z_cel G ad 0 o a = .inr (0, fs) ∧ fs[0]? = some (.ref (ad 5 13)) := fun _ => ⟨_, rfl, rfl⟩
theorem gi_1_0 (G : Gx) (ad : Ad) (o : Nat) : ∀ a, ∃ fs, z_cel G ad 1 o a = .inr (1, fs) ∧ fs[0]? = some (.int (a 0)) := fun _ => ⟨_, rfl, rfl⟩
theorem pi_1_0 (G : Gx) (ad : Ad) (o : Nat) : ∀ (a : Nat → Int32) (x : Int32), ∃ fs, z_cel G ad 1 o a = .inr (1, fs) ∧ 0 < fs.length ∧ z_cel G ad 1 o (upd a 0 x) = .inr (1, fs.set 0 (.int x)) := fun _ _ => ⟨_, rfl, Nat.le_of_ble_eq_true rfl, rfl⟩
theorem gi_1_1 (G : Gx) (ad : Ad) (o : Nat) : ∀ a, ∃ fs, z_cel G ad 1 o a = .inr (1, fs) ∧ fs[1]? = some (.int (a 1)) := fun _ => ⟨_, rfl, rfl⟩
theorem pi_1_1 (G : Gx) (ad : Ad) (o : Nat) : ∀ (a : Nat → Int32) (x : Int32), ∃ fs, z_cel G ad 1 o a = .inr (1, fs) ∧ 1 < fs.length ∧ z_cel G ad 1 o (upd a 1 x) = .inr (1, fs.set 1 (.int x)) := fun _ _ => ⟨_, rfl, Nat.le_of_ble_eq_true rfl, rfl⟩
theorem gi_1_2 (G : Gx) (ad : Ad) (o : Nat) : ∀ a, ∃ fs, z_cel G ad 1 o a = .inr (1, fs) ∧ fs[2]? = some (.int (a 2)) := fun _ => ⟨_, rfl, rfl⟩
theorem pi_1_2 (G : Gx) (ad : Ad) (o : Nat) : ∀ (a : Nat → Int32) (x : Int32), ∃ fs, z_cel G ad 1 o a = .inr (1, fs) ∧ 2 < fs.length ∧ z_cel G ad 1 o (upd a 2 x) = .inr (1, fs.set 2 (.int x)) := fun _ _ => ⟨_, rfl, Nat.le_of_ble_eq_true rfl, rfl⟩
theorem gi_1_3 (G : Gx) (ad : Ad) (o : Nat) : ∀ a, ∃ fs, z_cel G ad 1 o a = .inr (1, fs) ∧ fs[3]? = some (.int (a 3)) := fun _ => ⟨_, rfl, rfl⟩
theorem pi_1_3 (G : Gx) (ad : Ad) (o : Nat) : ∀ (a : Nat → Int32) (x : Int32), ∃ fs, z_cel G ad 1 o a = .inr (1, fs) ∧ 3 < fs.length ∧ z_cel G ad 1 o (upd a 3 x) = .inr (1, fs.set 3 (.int x)) := fun _ _ => ⟨_, rfl, Nat.le_of_ble_eq_true rfl, rfl⟩
theorem gi_1_4 (G : Gx) (ad : Ad) (o : Nat) : ∀ a, ∃ fs, z_cel G ad 1 o a = .inr (1, fs) ∧ fs[4]? = some (.int (a 4)) := fun _ => ⟨_, rfl, rfl⟩
theorem pi_1_4 (G : Gx) (ad : Ad) (o : Nat) : ∀ (a : Nat → Int32) (x : Int32), ∃ fs, z_cel G ad 1 o a = .inr (1, fs) ∧ 4 < fs.length ∧ z_cel G ad 1 o (upd a 4 x) = .inr (1, fs.set 4 (.int x)) := fun _ _ => ⟨_, rfl, Nat.le_of_ble_eq_true rfl, rfl⟩
theorem gi_1_5 (G : Gx) (ad : Ad) (o : Nat) : ∀ a, ∃ fs, z_cel G ad 1 o a = .inr (1, fs) ∧ fs[5]? = some (.int (a 5)) := fun _ => ⟨_, rfl, rfl⟩
theorem pi_1_5 (G : Gx) (ad : Ad) (o : Nat) : ∀ (a : Nat → Int32) (x : Int32), ∃ fs, z_cel G ad 1 o a = .inr (1, fs) ∧ 5 < fs.length ∧ z_cel G ad 1 o (upd a 5 x) = .inr (1, fs.set 5 (.int x)) := fun _ _ => ⟨_, rfl, Nat.le_of_ble_eq_true rfl, rfl⟩
theorem gi_1_6 (G : Gx) (ad : Ad) (o : Nat) : ∀ a, ∃ fs, z_cel G ad 1 o a = .inr (1, fs) ∧ fs[6]? = some (.int (a 6)) := fun _ => ⟨_, rfl, rfl⟩
theorem pi_1_6 (G : Gx) (ad : Ad) (o : Nat) : ∀ (a : Nat → Int32) (x : Int32), ∃ fs, z_cel G ad 1 o a = .inr (1, fs) ∧ 6 < fs.length ∧ z_cel G ad 1 o (upd a 6 x) = .inr (1, fs.set 6 (.int x)) := fun _ _ => ⟨_, rfl, Nat.le_of_ble_eq_true rfl, rfl⟩
theorem gi_1_7 (G : Gx) (ad : Ad) (o : Nat) : ∀ a, ∃ fs, z_cel G ad 1 o a = .inr (1, fs) ∧ fs[7]? = some (.int (a 7)) := fun _ => ⟨_, rfl, rfl⟩
theorem pi_1_7 (G : Gx) (ad : Ad) (o : Nat) : ∀ (a : Nat → Int32) (x : Int32), ∃ fs, z_cel G ad 1 o a = .inr (1, fs) ∧ 7 < fs.length ∧ z_cel G ad 1 o (upd a 7 x) = .inr (1, fs.set 7 (.int x)) := fun _ _ => ⟨_, rfl, Nat.le_of_ble_eq_true rfl, rfl⟩
theorem gi_1_8 (G : Gx) (ad : Ad) (o : Nat) : ∀ a, ∃ fs, z_cel G ad 1 o a = .inr (1, fs) ∧ fs[8]? = some (.int (a 8)) := fun _ => ⟨_, rfl, rfl⟩
theorem pi_1_8 (G : Gx) (ad : Ad) (o : Nat) : ∀ (a : Nat → Int32) (x : Int32), ∃ fs, z_cel G ad 1 o a = .inr (1, fs) ∧ 8 < fs.length ∧ z_cel G ad 1 o (upd a 8 x) = .inr (1, fs.set 8 (.int x)) := fun _ _ => ⟨_, rfl, Nat.le_of_ble_eq_true rfl, rfl⟩
theorem gi_1_9 (G : Gx) (ad : Ad) (o : Nat) : ∀ a, ∃ fs, z_cel G ad 1 o a = .inr (1, fs) ∧ fs[9]? = some (.int (a 9)) := fun _ => ⟨_, rfl, rfl⟩
theorem pi_1_9 (G : Gx) (ad : Ad) (o : Nat) : ∀ (a : Nat → Int32) (x : Int32), ∃ fs, z_cel G ad 1 o a = .inr (1, fs) ∧ 9 < fs.length ∧ z_cel G ad 1 o (upd a 9 x) = .inr (1, fs.set 9 (.int x)) := fun _ _ => ⟨_, rfl, Nat.le_of_ble_eq_true rfl, rfl⟩
theorem gi_1_10 (G : Gx) (ad : Ad) (o : Nat) : ∀ a, ∃ fs, z_cel G ad 1 o a = .inr (1, fs) ∧ fs[10]? = some (.int (a 10)) := fun _ => ⟨_, rfl, rfl⟩
theorem pi_1_10 (G : Gx) (ad : Ad) (o : Nat) : ∀ (a : Nat → Int32) (x : Int32), ∃ fs, z_cel G ad 1 o a = .inr (1, fs) ∧ 10 < fs.length ∧ z_cel G ad 1 o (upd a 10 x) = .inr (1, fs.set 10 (.int x)) := fun _ _ => ⟨_, rfl, Nat.le_of_ble_eq_true rfl, rfl⟩
theorem gi_2_0 (G : Gx) (ad : Ad) (o : Nat) : ∀ a, ∃ fs, z_cel G ad 2 o a = .inr (2, fs) ∧ fs[0]? = some (.int (a 0)) := fun _ => ⟨_, rfl, rfl⟩
theorem pi_2_0 (G : Gx) (ad : Ad) (o : Nat) : ∀ (a : Nat → Int32) (x : Int32), ∃ fs, z_cel G ad 2 o a = .inr (2, fs) ∧ 0 < fs.length ∧ z_cel G ad 2 o (upd a 0 x) = .inr (2, fs.set 0 (.int x)) := fun _ _ => ⟨_, rfl, Nat.le_of_ble_eq_true rfl, rfl⟩
theorem gi_2_1 (G : Gx) (ad : Ad) (o : Nat) : ∀ a, ∃ fs, z_cel G ad 2 o a = .inr (2, fs) ∧ fs[1]? = some (.int (a 1)) := fun _ => ⟨_, rfl, rfl⟩
theorem pi_2_1 (G : Gx) (ad : Ad) (o : Nat) : ∀ (a : Nat → Int32) (x : Int32), ∃ fs, z_cel G ad 2 o a = .inr (2, fs) ∧ 1 < fs.length ∧ z_cel G ad 2 o (upd a 1 x) = .inr (2, fs.set 1 (.int x)) := fun _ _ => ⟨_, rfl, Nat.le_of_ble_eq_true rfl, rfl⟩
theorem gi_2_2 (G : Gx) (ad : Ad) (o : Nat) : ∀ a, ∃ fs, z_cel G ad 2 o a = .inr (2, fs) ∧ fs[2]? = some (.int (a 2)) := fun _ => ⟨_, rfl, rfl⟩
theorem pi_2_2 (G : Gx) (ad : Ad) (o : Nat) : ∀ (a : Nat → Int32) (x : Int32), ∃ fs, z_cel G ad 2 o a = .inr (2, fs) ∧ 2 < fs.length ∧ z_cel G ad 2 o (upd a 2 x) = .inr (2, fs.set 2 (.int x)) := fun _ _ => ⟨_, rfl, Nat.le_of_ble_eq_true rfl, rfl⟩
theorem gi_2_3 (G : Gx) (ad : Ad) (o : Nat) : ∀ a, ∃ fs, z_cel G ad 2 o a = .inr (2, fs) ∧ fs[3]? = some (.int (a 3)) := fun _ => ⟨_, rfl, rfl⟩
theorem pi_2_3 (G : Gx) (ad : Ad) (o : Nat) : ∀ (a : Nat → Int32) (x : Int32), ∃ fs, z_cel G ad 2 o a = .inr (2, fs) ∧ 3 < fs.length ∧ z_cel G ad 2 o (upd a 3 x) = .inr (2, fs.set 3 (.int x)) := fun _ _ => ⟨_, rfl, Nat.le_of_ble_eq_true rfl, rfl⟩
theorem gi_2_4 (G : Gx) (ad : Ad) (o : Nat) : ∀ a, ∃ fs, z_cel G ad 2 o a = .inr (2, fs) ∧ fs[4]? = some (.int (a 4)) := fun _ => ⟨_, rfl, rfl⟩
theorem pi_2_4 (G : Gx) (ad : Ad) (o : Nat) : ∀ (a : Nat → Int32) (x : Int32), ∃ fs, z_cel G ad 2 o a = .inr (2, fs) ∧ 4 < fs.length ∧ z_cel G ad 2 o (upd a 4 x) = .inr (2, fs.set 4 (.int x)) := fun _ _ => ⟨_, rfl, Nat.le_of_ble_eq_true rfl, rfl⟩
theorem gi_2_5 (G : Gx) (ad : Ad) (o : Nat) : ∀ a, ∃ fs, z_cel G ad 2 o a = .inr (2, fs) ∧ fs[5]? = some (.int (a 5)) := fun _ => ⟨_, rfl, rfl⟩
theorem pi_2_5 (G : Gx) (ad : Ad) (o : Nat) : ∀ (a : Nat → Int32) (x : Int32), ∃ fs, z_cel G ad 2 o a = .inr (2, fs) ∧ 5 < fs.length ∧ z_cel G ad 2 o (upd a 5 x) = .inr (2, fs.set 5 (.int x)) := fun _ _ => ⟨_, rfl, Nat.le_of_ble_eq_true rfl, rfl⟩
theorem gi_2_6 (G : Gx) (ad : Ad) (o : Nat) : ∀ a, ∃ fs, z_cel G ad 2 o a = .inr (2, fs) ∧ fs[6]? = some (.int (a 6)) := fun _ => ⟨_, rfl, rfl⟩
theorem pi_2_6 (G : Gx) (ad : Ad) (o : Nat) : ∀ (a : Nat → Int32) (x : Int32), ∃ fs, z_cel G ad 2 o a = .inr (2, fs) ∧ 6 < fs.length ∧ z_cel G ad 2 o (upd a 6 x) = .inr (2, fs.set 6 (.int x)) := fun _ _ => ⟨_, rfl, Nat.le_of_ble_eq_true rfl, rfl⟩
theorem gi_2_7 (G : Gx) (ad : Ad) (o : Nat) : ∀ a, ∃ fs, z_cel G ad 2 o a = .inr (2, fs) ∧ fs[7]? = some (.int (a 7)) := fun _ => ⟨_, rfl, rfl⟩
theorem pi_2_7 (G : Gx) (ad : Ad) (o : Nat) : ∀ (a : Nat → Int32) (x : Int32), ∃ fs, z_cel G ad 2 o a = .inr (2, fs) ∧ 7 < fs.length ∧ z_cel G ad 2 o (upd a 7 x) = .inr (2, fs.set 7 (.int x)) := fun _ _ => ⟨_, rfl, Nat.le_of_ble_eq_true rfl, rfl⟩
theorem gi_2_8 (G : Gx) (ad : Ad) (o : Nat) : ∀ a, ∃ fs, z_cel G ad 2 o a = .inr (2, fs) ∧ fs[8]? = some (.int (a 8)) := fun _ => ⟨_, rfl, rfl⟩
theorem pi_2_8 (G : Gx) (ad : Ad) (o : Nat) : ∀ (a : Nat → Int32) (x : Int32), ∃ fs, z_cel G ad 2 o a = .inr (2, fs) ∧ 8 < fs.length ∧ z_cel G ad 2 o (upd a 8 x) = .inr (2, fs.set 8 (.int x)) := fun _ _ => ⟨_, rfl, Nat.le_of_ble_eq_true rfl, rfl⟩
theorem gi_2_9 (G : Gx) (ad : Ad) (o : Nat) : ∀ a, ∃ fs, z_cel G ad 2 o a = .inr (2, fs) ∧ fs[9]? = some (.int (a 9)) := fun _ => ⟨_, rfl, rfl⟩
theorem pi_2_9 (G : Gx) (ad : Ad) (o : Nat) : ∀ (a : Nat → Int32) (x : Int32), ∃ fs, z_cel G ad 2 o a = .inr (2, fs) ∧ 9 < fs.length ∧ z_cel G ad 2 o (upd a 9 x) = .inr (2, fs.set 9 (.int x)) := fun _ _ => ⟨_, rfl, Nat.le_of_ble_eq_true rfl, rfl⟩
theorem gr_2_10 (G : Gx) (ad : Ad) (o : Nat) : ∀ a, ∃ fs, z_cel G ad 2 o a = .inr (2, fs) ∧ fs[10]? = some (.ref (ad 16 o)) := fun _ => ⟨_, rfl, rfl⟩
theorem gr_2_11 (G : Gx) (ad : Ad) (o : Nat) : ∀ a, ∃ fs, z_cel G ad 2 o a = .inr (2, fs) ∧ fs[11]? = some (.ref (ad 17 o)) := fun _ => ⟨_, rfl, rfl⟩
theorem gr_2_12 (G : Gx) (ad : Ad) (o : Nat) : ∀ a, ∃ fs, z_cel G ad 2 o a = .inr (2, fs) ∧ fs[12]? = some (.ref (ad 18 o)) := fun _ => ⟨_, rfl, rfl⟩
theorem gr_2_13 (G : Gx) (ad : Ad) (o : Nat) : ∀ a, ∃ fs, z_cel G ad 2 o a = .inr (2, fs) ∧ fs[13]? = some (.ref (ad 19 o)) := fun _ => ⟨_, rfl, rfl⟩
theorem gi_3_0 (G : Gx) (ad : Ad) (o : Nat) : ∀ a, ∃ fs, z_cel G ad 3 o a = .inr (3, fs) ∧ fs[0]? = some (.int (a 0)) := fun _ => ⟨_, rfl, rfl⟩
theorem pi_3_0 (G : Gx) (ad : Ad) (o : Nat) : ∀ (a : Nat → Int32) (x : Int32), ∃ fs, z_cel G ad 3 o a = .inr (3, fs) ∧ 0 < fs.length ∧ z_cel G ad 3 o (upd a 0 x) = .inr (3, fs.set 0 (.int x)) := fun _ _ => ⟨_, rfl, Nat.le_of_ble_eq_true rfl, rfl⟩
theorem gi_3_1 (G : Gx) (ad : Ad) (o : Nat) : ∀ a, ∃ fs, z_cel G ad 3 o a = .inr (3, fs) ∧ fs[1]? = some (.int (a 1)) := fun _ => ⟨_, rfl, rfl⟩
theorem pi_3_1 (G : Gx) (ad : Ad) (o : Nat) : ∀ (a : Nat → Int32) (x : Int32), ∃ fs, z_cel G ad 3 o a = .inr (3, fs) ∧ 1 < fs.length ∧ z_cel G ad 3 o (upd a 1 x) = .inr (3, fs.set 1 (.int x)) := fun _ _ => ⟨_, rfl, Nat.le_of_ble_eq_true rfl, rfl⟩
theorem gr_3_2 (G : Gx) (ad : Ad) (o : Nat) : ∀ a, ∃ fs, z_cel G ad 3 o a = .inr (3, fs) ∧ fs[2]? = some (.ref (ad 27 0)) := fun _ => ⟨_, rfl, rfl⟩
theorem gi_4_0 (G : Gx) (ad : Ad) (o : Nat) : ∀ a, ∃ fs, z_cel G ad 4 o a = .inr (4, fs) ∧ fs[0]? = some (.int (a 0)) := fun _ => ⟨_, rfl, rfl⟩
theorem pi_4_0 (G : Gx) (ad : Ad) (o : Nat) : ∀ (a : Nat → Int32) (x : Int32), ∃ fs, z_cel G ad 4 o a = .inr (4, fs) ∧ 0 < fs.length ∧ z_cel G ad 4 o (upd a 0 x) = .inr (4, fs.set 0 (.int x)) := fun _ _ => ⟨_, rfl, Nat.le_of_ble_eq_true rfl, rfl⟩
theorem gi_4_1 (G : Gx) (ad : Ad) (o : Nat) : ∀ a, ∃ fs, z_cel G ad 4 o a = .inr (4, fs) ∧ fs[1]? = some (.int (a 1)) := fun _ => ⟨_, rfl, rfl⟩
theorem pi_4_1 (G : Gx) (ad : Ad) (o : Nat) : ∀ (a : Nat → Int32) (x : Int32), ∃ fs, z_cel G ad 4 o a = .inr (4, fs) ∧ 1 < fs.length ∧ z_cel G ad 4 o (upd a 1 x) = .inr (4, fs.set 1 (.int x)) := fun _ _ => ⟨_, rfl, Nat.le_of_ble_eq_true rfl, rfl⟩
theorem gi_4_2 (G : Gx) (ad : Ad) (o : Nat) : ∀ a, ∃ fs, z_cel G ad 4 o a = .inr (4, fs) ∧ fs[2]? = some (.int (a 2)) := fun _ => ⟨_, rfl, rfl⟩
theorem pi_4_2 (G : Gx) (ad : Ad) (o : Nat) : ∀ (a : Nat → Int32) (x : Int32), ∃ fs, z_cel G ad 4 o a = .inr (4, fs) ∧ 2 < fs.length ∧ z_cel G ad 4 o (upd a 2 x) = .inr (4, fs.set 2 (.int x)) := fun _ _ => ⟨_, rfl, Nat.le_of_ble_eq_true rfl, rfl⟩
theorem gi_4_3 (G : Gx) (ad : Ad) (o : Nat) : ∀ a, ∃ fs, z_cel G ad 4 o a = .inr (4, fs) ∧ fs[3]? = some (.int (a 3)) := fun _ => ⟨_, rfl, rfl⟩
theorem pi_4_3 (G : Gx) (ad : Ad) (o : Nat) : ∀ (a : Nat → Int32) (x : Int32), ∃ fs, z_cel G ad 4 o a = .inr (4, fs) ∧ 3 < fs.length ∧ z_cel G ad 4 o (upd a 3 x) = .inr (4, fs.set 3 (.int x)) := fun _ _ => ⟨_, rfl, Nat.le_of_ble_eq_true rfl, rfl⟩
theorem gi_4_4 (G : Gx) (ad : Ad) (o : Nat) : ∀ a, ∃ fs, z_cel G ad 4 o a = .inr (4, fs) ∧ fs[4]? = some (.int (a 4)) := fun _ => ⟨_, rfl, rfl⟩
theorem pi_4_4 (G : Gx) (ad : Ad) (o : Nat) : ∀ (a : Nat → Int32) (x : Int32), ∃ fs, z_cel G ad 4 o a = .inr (4, fs) ∧ 4 < fs.length ∧ z_cel G ad 4 o (upd a 4 x) = .inr (4, fs.set 4 (.int x)) := fun _ _ => ⟨_, rfl, Nat.le_of_ble_eq_true rfl, rfl⟩
theorem gr_4_5 (G : Gx) (ad : Ad) (o : Nat) : ∀ a, ∃ fs, z_cel G ad 4 o a = .inr (4, fs) ∧ fs[5]? = some (.ref (ad 12 o)) := fun _ => ⟨_, rfl, rfl⟩
theorem gr_4_6 (G : Gx) (ad : Ad) (o : Nat) : ∀ a, ∃ fs, z_cel G ad 4 o a = .inr (4, fs) ∧ fs[6]? = some (.ref (ad 25 o)) := fun _ => ⟨_, rfl, rfl⟩
theorem gr_4_7 (G : Gx) (ad : Ad) (o : Nat) : ∀ a, ∃ fs, z_cel G ad 4 o a = .inr (4, fs) ∧ fs[7]? = some (.ref (ad 26 o)) := fun _ => ⟨_, rfl, rfl⟩
theorem gr_4_8 (G : Gx) (ad : Ad) (o : Nat) : ∀ a, ∃ fs, z_cel G ad 4 o a = .inr (4, fs) ∧ fs[8]? = some (.ref (ad 5 o)) := fun _ => ⟨_, rfl, rfl⟩
theorem gr_4_9 (G : Gx) (ad : Ad) (o : Nat) : ∀ a, ∃ fs, z_cel G ad 4 o a = .inr (4, fs) ∧ fs[9]? = some (.ref (ad 13 o)) := fun _ => ⟨_, rfl, rfl⟩
theorem gr_4_10 (G : Gx) (ad : Ad) (o : Nat) : ∀ a, ∃ fs, z_cel G ad 4 o a = .inr (4, fs) ∧ fs[10]? = some (.ref (ad 14 o)) := fun _ => ⟨_, rfl, rfl⟩
theorem gr_4_11 (G : Gx) (ad : Ad) (o : Nat) : ∀ a, ∃ fs, z_cel G ad 4 o a = .inr (4, fs) ∧ fs[11]? = some (.ref (ad 15 o)) := fun _ => ⟨_, rfl, rfl⟩
theorem gi_5_0 (G : Gx) (ad : Ad) (o : Nat) : ∀ a, ∃ fs, z_cel G ad 5 o a = .inr (5, fs) ∧ fs[0]? = some (.int (a 0)) := fun _ => ⟨_, rfl, rfl⟩
theorem pi_5_0 (G : Gx) (ad : Ad) (o : Nat) : ∀ (a : Nat → Int32) (x : Int32), ∃ fs, z_cel G ad 5 o a = .inr (5, fs) ∧ 0 < fs.length ∧ z_cel G ad 5 o (upd a 0 x) = .inr (5, fs.set 0 (.int x)) := fun _ _ => ⟨_, rfl, Nat.le_of_ble_eq_true rfl, rfl⟩
theorem gr_5_1 (G : Gx) (ad : Ad) (o : Nat) : ∀ a, ∃ fs, z_cel G ad 5 o a = .inr (5, fs) ∧ fs[1]? = some (.ref (ad 20 o)) := fun _ => ⟨_, rfl, rfl⟩
theorem gr_5_2 (G : Gx) (ad : Ad) (o : Nat) : ∀ a, ∃ fs, z_cel G ad 5 o a = .inr (5, fs) ∧ fs[2]? = some (.ref (ad 21 o)) := fun _ => ⟨_, rfl, rfl⟩
theorem gr_5_3 (G : Gx) (ad : Ad) (o : Nat) : ∀ a, ∃ fs, z_cel G ad 5 o a = .inr (5, fs) ∧ fs[3]? = some (.ref (ad 22 o)) := fun _ => ⟨_, rfl, rfl⟩
theorem gr_5_4 (G : Gx) (ad : Ad) (o : Nat) : ∀ a, ∃ fs, z_cel G ad 5 o a = .inr (5, fs) ∧ fs[4]? = some (.ref (ad 23 o)) := fun _ => ⟨_, rfl, rfl⟩
theorem gi_6_0 (G : Gx) (ad : Ad) (o : Nat) : ∀ a, ∃ fs, z_cel G ad 6 o a = .inr (6, fs) ∧ fs[0]? = some (.int (a 0)) := fun _ => ⟨_, rfl, rfl⟩
theorem pi_6_0 (G : Gx) (ad : Ad) (o : Nat) : ∀ (a : Nat → Int32) (x : Int32), ∃ fs, z_cel G ad 6 o a = .inr (6, fs) ∧ 0 < fs.length ∧ z_cel G ad 6 o (upd a 0 x) = .inr (6, fs.set 0 (.int x)) := fun _ _ => ⟨_, rfl, Nat.le_of_ble_eq_true rfl, rfl⟩
theorem gi_6_1 (G : Gx) (ad : Ad) (o : Nat) : ∀ a, ∃ fs, z_cel G ad 6 o a = .inr (6, fs) ∧ fs[1]? = some (.int (a 1)) := fun _ => ⟨_, rfl, rfl⟩
theorem pi_6_1 (G : Gx) (ad : Ad) (o : Nat) : ∀ (a : Nat → Int32) (x : Int32), ∃ fs, z_cel G ad 6 o a = .inr (6, fs) ∧ 1 < fs.length ∧ z_cel G ad 6 o (upd a 1 x) = .inr (6, fs.set 1 (.int x)) := fun _ _ => ⟨_, rfl, Nat.le_of_ble_eq_true rfl, rfl⟩
theorem gi_6_3 (G : Gx) (ad : Ad) (o : Nat) : ∀ a, ∃ fs, z_cel G ad 6 o a = .inr (6, fs) ∧ fs[3]? = some (.int (a 3)) := fun _ => ⟨_, rfl, rfl⟩
theorem pi_6_3 (G : Gx) (ad : Ad) (o : Nat) : ∀ (a : Nat → Int32) (x : Int32), ∃ fs, z_cel G ad 6 o a = .inr (6, fs) ∧ 3 < fs.length ∧ z_cel G ad 6 o (upd a 3 x) = .inr (6, fs.set 3 (.int x)) := fun _ _ => ⟨_, rfl, Nat.le_of_ble_eq_true rfl, rfl⟩
theorem gi_6_4 (G : Gx) (ad : Ad) (o : Nat) : ∀ a, ∃ fs, z_cel G ad 6 o a = .inr (6, fs) ∧ fs[4]? = some (.int (a 4)) := fun _ => ⟨_, rfl, rfl⟩
theorem pi_6_4 (G : Gx) (ad : Ad) (o : Nat) : ∀ (a : Nat → Int32) (x : Int32), ∃ fs, z_cel G ad 6 o a = .inr (6, fs) ∧ 4 < fs.length ∧ z_cel G ad 6 o (upd a 4 x) = .inr (6, fs.set 4 (.int x)) := fun _ _ => ⟨_, rfl, Nat.le_of_ble_eq_true rfl, rfl⟩
theorem gi_6_5 (G : Gx) (ad : Ad) (o : Nat) : ∀ a, ∃ fs, z_cel G ad 6 o a = .inr (6, fs) ∧ fs[5]? = some (.int (a 5)) := fun _ => ⟨_, rfl, rfl⟩
theorem pi_6_5 (G : Gx) (ad : Ad) (o : Nat) : ∀ (a : Nat → Int32) (x : Int32), ∃ fs, z_cel G ad 6 o a = .inr (6, fs) ∧ 5 < fs.length ∧ z_cel G ad 6 o (upd a 5 x) = .inr (6, fs.set 5 (.int x)) := fun _ _ => ⟨_, rfl, Nat.le_of_ble_eq_true rfl, rfl⟩
theorem gi_6_6 (G : Gx) (ad : Ad) (o : Nat) : ∀ a, ∃ fs, z_cel G ad 6 o a = .inr (6, fs) ∧ fs[6]? = some (.int (a 6)) := fun _ => ⟨_, rfl, rfl⟩
theorem pi_6_6 (G : Gx) (ad : Ad) (o : Nat) : ∀ (a : Nat → Int32) (x : Int32), ∃ fs, z_cel G ad 6 o a = .inr (6, fs) ∧ 6 < fs.length ∧ z_cel G ad 6 o (upd a 6 x) = .inr (6, fs.set 6 (.int x)) := fun _ _ => ⟨_, rfl, Nat.le_of_ble_eq_true rfl, rfl⟩
theorem gi_6_7 (G : Gx) (ad : Ad) (o : Nat) : ∀ a, ∃ fs, z_cel G ad 6 o a = .inr (6, fs) ∧ fs[7]? = some (.int (a 7)) := fun _ => ⟨_, rfl, rfl⟩
theorem pi_6_7 (G : Gx) (ad : Ad) (o : Nat) : ∀ (a : Nat → Int32) (x : Int32), ∃ fs, z_cel G ad 6 o a = .inr (6, fs) ∧ 7 < fs.length ∧ z_cel G ad 6 o (upd a 7 x) = .inr (6, fs.set 7 (.int x)) := fun _ _ => ⟨_, rfl, Nat.le_of_ble_eq_true rfl, rfl⟩
theorem gi_6_8 (G : Gx) (ad : Ad) (o : Nat) : ∀ a, ∃ fs, z_cel G ad 6 o a = .inr (6, fs) ∧ fs[8]? = some (.int (a 8)) := fun _ => ⟨_, rfl, rfl⟩
theorem pi_6_8 (G : Gx) (ad : Ad) (o : Nat) : ∀ (a : Nat → Int32) (x : Int32), ∃ fs, z_cel G ad 6 o a = .inr (6, fs) ∧ 8 < fs.length ∧ z_cel G ad 6 o (upd a 8 x) = .inr (6, fs.set 8 (.int x)) := fun _ _ => ⟨_, rfl, Nat.le_of_ble_eq_true rfl, rfl⟩
theorem gr_7_0 (G : Gx) (ad : Ad) (o : Nat) : ∀ a, ∃ fs, z_cel G ad 7 o a = .inr (7, fs) ∧ fs[0]? = some (.ref (ad 10 0)) := fun _ => ⟨_, rfl, rfl⟩
theorem gi_7_1 (G : Gx) (ad : Ad) (o : Nat) : ∀ a, ∃ fs, z_cel G ad 7 o a = .inr (7, fs) ∧ fs[1]? = some (.int (a 1)) := fun _ => ⟨_, rfl, rfl⟩
theorem pi_7_1 (G : Gx) (ad : Ad) (o : Nat) : ∀ (a : Nat → Int32) (x : Int32), ∃ fs, z_cel G ad 7 o a = .inr (7, fs) ∧ 1 < fs.length ∧ z_cel G ad 7 o (upd a 1 x) = .inr (7, fs.set 1 (.int x)) := fun _ _ => ⟨_, rfl, Nat.le_of_ble_eq_true rfl, rfl⟩
theorem gi_7_2 (G : Gx) (ad : Ad) (o : Nat) : ∀ a, ∃ fs, z_cel G ad 7 o a = .inr (7, fs) ∧ fs[2]? = some (.int (a 2)) := fun _ => ⟨_, rfl, rfl⟩
theorem pi_7_2 (G : Gx) (ad : Ad) (o : Nat) : ∀ (a : Nat → Int32) (x : Int32), ∃ fs, z_cel G ad 7 o a = .inr (7, fs) ∧ 2 < fs.length ∧ z_cel G ad 7 o (upd a 2 x) = .inr (7, fs.set 2 (.int x)) := fun _ _ => ⟨_, rfl, Nat.le_of_ble_eq_true rfl, rfl⟩
theorem gi_7_3 (G : Gx) (ad : Ad) (o : Nat) : ∀ a, ∃ fs, z_cel G ad 7 o a = .inr (7, fs) ∧ fs[3]? = some (.int (a 3)) := fun _ => ⟨_, rfl, rfl⟩
theorem pi_7_3 (G : Gx) (ad : Ad) (o : Nat) : ∀ (a : Nat → Int32) (x : Int32), ∃ fs, z_cel G ad 7 o a = .inr (7, fs) ∧ 3 < fs.length ∧ z_cel G ad 7 o (upd a 3 x) = .inr (7, fs.set 3 (.int x)) := fun _ _ => ⟨_, rfl, Nat.le_of_ble_eq_true rfl, rfl⟩
theorem gr_7_4 (G : Gx) (ad : Ad) (o : Nat) : ∀ a, ∃ fs, z_cel G ad 7 o a = .inr (7, fs) ∧ fs[4]? = some (.ref (ad 11 0)) := fun _ => ⟨_, rfl, rfl⟩
theorem gi_7_5 (G : Gx) (ad : Ad) (o : Nat) : ∀ a, ∃ fs, z_cel G ad 7 o a = .inr (7, fs) ∧ fs[5]? = some (.int (a 5)) := fun _ => ⟨_, rfl, rfl⟩
theorem pi_7_5 (G : Gx) (ad : Ad) (o : Nat) : ∀ (a : Nat → Int32) (x : Int32), ∃ fs, z_cel G ad 7 o a = .inr (7, fs) ∧ 5 < fs.length ∧ z_cel G ad 7 o (upd a 5 x) = .inr (7, fs.set 5 (.int x)) := fun _ _ => ⟨_, rfl, Nat.le_of_ble_eq_true rfl, rfl⟩
theorem gr_7_6 (G : Gx) (ad : Ad) (o : Nat) : ∀ a, ∃ fs, z_cel G ad 7 o a = .inr (7, fs) ∧ fs[6]? = some (.ref (ad 4 0)) := fun _ => ⟨_, rfl, rfl⟩
theorem gr_7_7 (G : Gx) (ad : Ad) (o : Nat) : ∀ a, ∃ fs, z_cel G ad 7 o a = .inr (7, fs) ∧ fs[7]? = some (.ref (ad 4 1)) := fun _ => ⟨_, rfl, rfl⟩
theorem gr_7_8 (G : Gx) (ad : Ad) (o : Nat) : ∀ a, ∃ fs, z_cel G ad 7 o a = .inr (7, fs) ∧ fs[8]? = some (.ref (ad 4 2)) := fun _ => ⟨_, rfl, rfl⟩
theorem gi_7_9 (G : Gx) (ad : Ad) (o : Nat) : ∀ a, ∃ fs, z_cel G ad 7 o a = .inr (7, fs) ∧ fs[9]? = some (.int (a 9)) := fun _ => ⟨_, rfl, rfl⟩
theorem pi_7_9 (G : Gx) (ad : Ad) (o : Nat) : ∀ (a : Nat → Int32) (x : Int32), ∃ fs, z_cel G ad 7 o a = .inr (7, fs) ∧ 9 < fs.length ∧ z_cel G ad 7 o (upd a 9 x) = .inr (7, fs.set 9 (.int x)) := fun _ _ => ⟨_, rfl, Nat.le_of_ble_eq_true rfl, rfl⟩
theorem gr_7_10 (G : Gx) (ad : Ad) (o : Nat) : ∀ a, ∃ fs, z_cel G ad 7 o a = .inr (7, fs) ∧ fs[10]? = some (.ref (ad 3 0)) := fun _ => ⟨_, rfl, rfl⟩
theorem gr_7_11 (G : Gx) (ad : Ad) (o : Nat) : ∀ a, ∃ fs, z_cel G ad 7 o a = .inr (7, fs) ∧ fs[11]? = some (.ref (ad 0 0)) := fun _ => ⟨_, rfl, rfl⟩
theorem gr_7_12 (G : Gx) (ad : Ad) (o : Nat) : ∀ a, ∃ fs, z_cel G ad 7 o a = .inr (7, fs) ∧ fs[12]? = some (.ref (ad 6 0)) := fun _ => ⟨_, rfl, rfl⟩
def FU : Nat := 65536
def st {α : Type} (x : Sg) (f : Sg → Option α) : Option α := f x
def bi {α : Type} (x : Option (Int32 × Sg)) (f : Int32 → Sg → Option α) : Option α := x.bind (fun q => f q.1 q.2)
def bv {α : Type} (x : Option Sg) (f : Sg → Option α) : Option α := x.bind f
theorem stb {α : Type} {x : Sg} {f : Sg → Option α} {r : α} (h : st x f = some r) : ∃ y, y = x ∧ f y = some r := ⟨x, rfl, h⟩
theorem bib {α : Type} {x : Option (Int32 × Sg)} {f : Int32 → Sg → Option α} {r : α} (h : bi x f = some r) : ∃ v y, x = some (v, y) ∧ f v y = some r := by
  obtain ⟨⟨v, y⟩, h1, h2⟩ := bd h
  exact ⟨v, y, h1, h2⟩
theorem bvb {α : Type} {x : Option Sg} {f : Sg → Option α} {r : α} (h : bv x f = some r) : ∃ y, x = some y ∧ f y = some r := bd h
theorem oc2 {j : Nat} {i : Int32} (hj : j < z_cnt 4) (hi : ¬ (i < 0 ∨ 4 ≤ i.toNatClampNeg)) : 4 * j + i.toNatClampNeg < z_cnt 2 := by
  have h1 : j < 13 := hj
  have h2 : ¬ 4 ≤ i.toNatClampNeg := fun q => hi (Or.inr q)
  show 4 * j + i.toNatClampNeg < 52
  omega
theorem oc1 {j : Nat} {i : Int32} (hj : j < z_cnt 4) (hi : ¬ (i < 0 ∨ 24 ≤ i.toNatClampNeg)) : 24 * j + i.toNatClampNeg < z_cnt 1 := by
  have h1 : j < 13 := hj
  have h2 : ¬ 24 ≤ i.toNatClampNeg := fun q => hi (Or.inr q)
  show 24 * j + i.toNatClampNeg < 312
  omega
theorem oc4 {i : Int32} (hi : ¬ (i < 0 ∨ 10 ≤ i.toNatClampNeg)) : 3 + i.toNatClampNeg < z_cnt 4 := by
  have h2 : ¬ 10 ≤ i.toNatClampNeg := fun q => hi (Or.inr q)
  show 3 + i.toNatClampNeg < 13
  omega
theorem oc5 {j : Nat} (hj : j < z_cnt 4) : j < z_cnt 5 := by
  have h1 : j < 13 := hj
  show j < 14
  omega
theorem nbz {x : Int32} (h : ¬ ¬ (x = 0 ∨ x = 1)) : narrow .boolean (.int x) = .int x ∧ fits .boolean (.int x) = true := by
  rcases Classical.not_not.mp h with rfl | rfl
  · exact ⟨rfl, rfl⟩
  · exact ⟨rfl, rfl⟩
def jabs (x : Int32) : Int32 := if 0 ≤ x then x else 0 - x
def jmax (x y : Int32) : Int32 := if x < y then y else x
def jmin (x y : Int32) : Int32 := if y < x then y else x
section ZM
variable {p : Program} {l : Launch} {e : Env} {R : Room} {s : State} {m : MethodId} {args : Array Value} {below : List Frame} {meth : Method} {c : Code} {H : Heap} {locs : List Loc} {cells slots : Nat} {Q : State → Prop}
variable {cc : ByteArray} {pc : Nat} {ls : Array Slot} {rest : List Value} {own : String} {nL : Nat} {ret : Option FieldType} {G : Gx} {b : Nat} {ad : Ad} {σ : Sg} {A : Nat → Prop} {H0 : Heap}
theorem z_abs (C : Cx p s m args meth c own cc nL ret G) (hls : ls.size = nL) {index : Nat} (hl : Cond.methodLink own index Lib.Math.abs.name ∈ TT) (h1 : 1 ≤ R.frames) (h2 : (rest.map fun v => v.category).sum + 13 ≤ R.locals) (hcs : cells ≤ R.cells ∧ slots ≤ R.slots) {x : Int32} (hdg : decode cc pc = .ok (.invokestatic index, 3))
    (kk : W p l e R s m args below meth c H locs cells slots Q (F0 m (pc + 3) ls (.int (jabs x) :: rest))) : W p l e R s m args below meth c H locs cells slots Q (F0 m pc ls (.int x :: rest)) := by
  obtain ⟨x1, x2, x3, x4, x5, x6, x7, x8⟩ := C
  exact va_mabs x1 x2 (x3.trans hls.symm) x4 (x5 _ hl) (x5 _ tw_6_104) (x5 _ tw_1_6) (x5 _ tw_6_105) h1 h2 hcs.1 hcs.2 hdg kk
theorem z_max (C : Cx p s m args meth c own cc nL ret G) (hls : ls.size = nL) {index : Nat} (hl : Cond.methodLink own index Lib.Math.max.name ∈ TT) (h1 : 1 ≤ R.frames) (h2 : (rest.map fun v => v.category).sum + 13 ≤ R.locals) (hcs : cells ≤ R.cells ∧ slots ≤ R.slots) {x y : Int32} (hdg : decode cc pc = .ok (.invokestatic index, 3))
    (kk : W p l e R s m args below meth c H locs cells slots Q (F0 m (pc + 3) ls (.int (jmax x y) :: rest))) : W p l e R s m args below meth c H locs cells slots Q (F0 m pc ls (.int y :: .int x :: rest)) := by
  obtain ⟨x1, x2, x3, x4, x5, x6, x7, x8⟩ := C
  exact va_mmax x1 x2 (x3.trans hls.symm) x4 (x5 _ hl) (x5 _ tw_2_187) (x5 _ tw_1_6) (x5 _ tw_2_188) h1 h2 hcs.1 hcs.2 hdg kk
theorem z_min (C : Cx p s m args meth c own cc nL ret G) (hls : ls.size = nL) {index : Nat} (hl : Cond.methodLink own index Lib.Math.min.name ∈ TT) (h1 : 1 ≤ R.frames) (h2 : (rest.map fun v => v.category).sum + 13 ≤ R.locals) (hcs : cells ≤ R.cells ∧ slots ≤ R.slots) {x y : Int32} (hdg : decode cc pc = .ok (.invokestatic index, 3))
    (kk : W p l e R s m args below meth c H locs cells slots Q (F0 m (pc + 3) ls (.int (jmin x y) :: rest))) : W p l e R s m args below meth c H locs cells slots Q (F0 m pc ls (.int y :: .int x :: rest)) := by
  obtain ⟨x1, x2, x3, x4, x5, x6, x7, x8⟩ := C
  exact va_mmin x1 x2 (x3.trans hls.symm) x4 (x5 _ hl) (x5 _ tw_2_184) (x5 _ tw_1_6) (x5 _ tw_2_185) h1 h2 hcs.1 hcs.2 hdg kk
theorem z_ldc (C : Cx p s m args meth c own cc nL ret G) {index : Nat} {v : Int32} (hl : Cond.constant own index v ∈ TT) (hdg : decode cc pc = .ok (.ldc index, 2))
    (kk : W p l e R s m args below meth c H locs cells slots Q (F0 m (pc + 2) ls (.int v :: rest))) : W p l e R s m args below meth c H locs cells slots Q (F0 m pc ls rest) := by
  obtain ⟨x1, x2, x3, x4, x5, x6, x7, x8⟩ := C
  exact lv_ldc x1 x2 x4 (x5 _ hl) hdg kk
theorem z_nn : ∀ z : Int32, ¬ z < 0 → z.toInt = (z.toNatClampNeg : Int) := by
  intro z hz
  have hz0 : (0 : Int) ≤ z.toInt := by
    have := Int32.not_lt.mp hz
    simpa using Int32.le_iff_toInt_le.mp this
  show z.toInt = ((z.toInt.toNat : Nat) : Int)
  omega
theorem z_copy (C : Cx p s m args meth c own cc nL ret G) (S : z_S b G ad σ A H0 H locs) (hls : ls.size = nL) (k1 o1 k2 o2 n1 n2 : Nat) (hk1 : z_side k1 = b) (ho1 : o1 < z_cnt k1) (hk2 : z_side k2 = b) (ho2 : o2 < z_cnt k2) (hc1 : ∀ a, z_cel G ad k1 o1 a = .inl (G.2.1 0, n1, .inl a)) (hc2 : ∀ a, z_cel G ad k2 o2 a = .inl (G.2.1 0, n2, .inl a))
    {index : Nat} (hl : Cond.methodLink own index arraycopyName ∈ TT) {sp dp n : Int32} (h1 : ¬ sp < 0) (h2 : ¬ dp < 0) (h3 : ¬ n < 0) (h4 : sp.toNatClampNeg + n.toNatClampNeg ≤ n1) (h5 : dp.toNatClampNeg + n.toNatClampNeg ≤ n2)
    (hframes : 1 ≤ R.frames) (hlocals : (rest.map fun v => v.category).sum + 18 ≤ R.locals) (hdg : decode cc pc = .ok (.invokestatic index, 3))
    (kk : ∀ (H1 : Heap) (locs1 : List Loc), z_S b G ad (scp σ k1 o1 sp.toNatClampNeg k2 o2 dp.toNatClampNeg n.toNatClampNeg) A H0 H1 locs1 → W p l e R s m args below meth c H1 locs1 cells slots Q (F0 m (pc + 3) ls rest)) : W p l e R s m args below meth c H locs cells slots Q (F0 m pc ls (.int n :: .int dp :: .ref (ad k2 o2) :: .int sp :: .ref (ad k1 o1) :: rest)) := by
  obtain ⟨x1, x2, x3, x4, x5, x6, x7, x8⟩ := C
  intro T hT X
  have hc0 : H[ad k1 o1]? = some (vp_cell (G.2.1 0) (n1, .inl (σ k1 o1))) := by have h := S.1.1 k1 o1 hk1 ho1; rw [hc1] at h; exact h
  have hc1' : H[ad k2 o2]? = some (vp_cell (G.2.1 0) (n2, .inl (σ k2 o2))) := by have h := S.1.1 k2 o2 hk2 ho2; rw [hc2] at h; exact h
  obtain ⟨-, k0, hk0, cm0, hkk0⟩ := (x6.1.2 0 _ rfl).1 n1 (fun j => .int (σ k1 o1 j))
  obtain ⟨-, k9, hk9, cm9, hkk9⟩ := (x6.1.2 0 _ rfl).1 n2 (fun j => .int (σ k2 o2 j))
  obtain ⟨vm', X', step⟩ := X.arraycopy x1 x4 (x5 _ hl) (x5 _ tw_2_119) (x5 _ tw_2_118) (x5 _ tw_1_8) (src := ad k1 o1) (dst := ad k2 o2) (cs := vp_cell (G.2.1 0) (n1, .inl (σ k1 o1))) (cd := vp_cell (G.2.1 0) (n2, .inl (σ k2 o2))) (srcPos := sp) (destPos := dp) (n := n) (by rw [hT]; exact hc0) (by rw [hT]; exact hc1')
    (fun _ h => by cases h) (fun _ h => by cases h) (fun h => by cases h) (fun h => by cases h) hk0 hk9 hkk0 hkk9 (by simp [refKind]) h1 h2 h3
    (by rw [z_nn sp h1, z_nn n h3]; show ¬ _ > ((arrV (G.2.1 0) n1 (fun j => .int (σ k1 o1 j))).slots.size : Int); rw [arrV_size]; omega)
    (by rw [z_nn dp h2, z_nn n h3]; show ¬ _ > ((arrV (G.2.1 0) n2 (fun j => .int (σ k2 o2 j))).slots.size : Int); rw [arrV_size]; omega)
    (fun vm₁ _ i hi => by
      have e : (vp_cell (G.2.1 0) (n1, .inl (σ k1 o1))).slots.getD (sp.toNatClampNeg + i) .null = .int (σ k1 o1 (sp.toNatClampNeg + i)) := by
        show (arrV (G.2.1 0) n1 (fun j => .int (σ k1 o1 j))).slots.getD _ _ = _
        rw [Array.getD_eq_getD_getElem?, arrV_read _ _ (by omega)]
        rfl
      refine ⟨?_, ?_⟩
      · rw [e]
        rfl
      · rw [e]
        exact trivial)
    (g := F0 m pc ls (.int n :: .int dp :: .ref (ad k2 o2) :: .int sp :: .ref (ad k1 o1) :: rest)) rfl (by rw [x3]; exact hls) (rest := rest) rfl (by rw [x2]; exact hdg) hframes (by show 2 * 0 + _ + (7 + 11) ≤ _; omega)
  have e1 : copied (vp_cell (G.2.1 0) (n1, .inl (σ k1 o1))) (vp_cell (G.2.1 0) (n2, .inl (σ k2 o2))) sp dp n = vp_cell (G.2.1 0) (n2, .inl (va_cpy (σ k1 o1) (σ k2 o2) sp.toNatClampNeg dp.toNatClampNeg n.toNatClampNeg)) := va_copied (fun z => .int z) (G.2.1 0) (G.2.1 0) (σ k1 o1) (σ k2 o2) h4
  rw [e1] at X' step
  have hlt : ad k2 o2 < H.size := (Array.getElem?_eq_some_iff.mp hc1').1
  have hheap : ((T.setVm vm').setCell (ad k2 o2) (vp_cell (G.2.1 0) (n2, .inl (va_cpy (σ k1 o1) (σ k2 o2) sp.toNatClampNeg dp.toNatClampNeg n.toNatClampNeg)))).heap = H.setIfInBounds (ad k2 o2) (vp_cell (G.2.1 0) (n2, .inl (va_cpy (σ k1 o1) (σ k2 o2) sp.toNatClampNeg dp.toNatClampNeg n.toNatClampNeg))) := by rw [← hT]; rfl
  have oq : ∀ q : Nat, q ≠ ad k2 o2 → (H.setIfInBounds (ad k2 o2) (vp_cell (G.2.1 0) (n2, .inl (va_cpy (σ k1 o1) (σ k2 o2) sp.toNatClampNeg dp.toNatClampNeg n.toNatClampNeg))))[q]? = H[q]? := fun q hq => by simp [Array.getElem?_setIfInBounds, Ne.symm hq]
  obtain ⟨t, a1, b1⟩ := kk _ _ (S.step hk2 ho2 (by simp) oq (by rw [hc2, scp_eq]; show (H.setIfInBounds (ad k2 o2) _)[ad k2 o2]? = some _; simp [Array.getElem?_setIfInBounds, hlt]) (fun k' o' => scp_ne k' o') ⟨by simp; exact S.2.1.1, fun q g1 g2 => by
      rw [oq q (fun e => g2 (by rw [e]; exact S.2.2.1 k2 o2 hk2 ho2))]
      exact S.2.1.2.1 q g1 g2, fun q hq => by
      rcases List.mem_append.mp hq with h | h
      · exact S.2.1.2.2 q h
      · obtain ⟨z, -, hz⟩ := List.mem_map.mp h
        rw [← hz]
        exact S.2.2.1 k2 o2 hk2 ho2⟩) _ hheap X'
  exact ⟨t, step t a1, b1⟩
end ZM

