/-! The reference's memory: the object at m, its rows behind it. -/
def mofs : List (Option Nat) := [none, none, some 1, some 2, some 3, some 4, some 5, none, some 6, some 7, some 8, some 9, none, none, none, none, none, none, none, none, some 10, some 11, none, some 12, some 13, some 14, some 15, none, some 16, some 17, none, some 18, some 19, none, some 20, none, some 21, some 22, some 23, none, some 24, some 25, none, some 26, some 27, some 28, some 29, some 30, some 31, some 32, some 33]
def rM (m : Nat) : Nat → Option (Option Nat) := fun k => match mofs[k]? with
  | some (some o) => some (some (m + o))
  | _ => none
def mtab : List (Nat × FieldType × Nat) := [(1, .int, 181), (2, .int, 181), (3, .int, 181), (4, .int, 181), (5, .int, 181), (6, .int, 1086), (7, .int, 6), (8, .int, 181), (9, .byte, 600), (10, .int, 6), (11, .int, 1086), (12, .int, 6), (13, .int, 36), (14, .int, 6), (15, .int, 1086), (16, .int, 30), (17, .int, 5430), (18, .int, 4), (19, .int, 724), (20, .int, 36), (21, .int, 7), (22, .int, 36), (23, .int, 36), (24, .int, 6), (25, .int, 36), (26, .boolean, 8), (27, .long, 104), (28, .boolean, 2), (29, .int, 2), (30, .int, 8), (31, .int, 1448), (32, .boolean, 16), (33, .long, 208)]
def LM (S : SS) (m : Nat) : Prop := S m = some (.inl (9, 51, rM m)) ∧ ∀ o t N, (o, t, N) ∈ mtab → S (m + o) = some (.inr (.inl (t, N)))
theorem k0 : (0 : Int32) = ii ((0 : Nat) : Int) := rfl
theorem k1 : (1 : Int32) = ii ((1 : Nat) : Int) := rfl
theorem k2 : (2 : Int32) = ii ((2 : Nat) : Int) := rfl
theorem k3 : (3 : Int32) = ii ((3 : Nat) : Int) := rfl
theorem k4 : (4 : Int32) = ii ((4 : Nat) : Int) := rfl
theorem k5 : (5 : Int32) = ii ((5 : Nat) : Int) := rfl
theorem k6 : (6 : Int32) = ii ((6 : Nat) : Int) := rfl
theorem k7 : (7 : Int32) = ii ((7 : Nat) : Int) := rfl
theorem k8 : (8 : Int32) = ii ((8 : Nat) : Int) := rfl
theorem k9 : (9 : Int32) = ii ((9 : Nat) : Int) := rfl
theorem k10 : (10 : Int32) = ii ((10 : Nat) : Int) := rfl
theorem k11 : (11 : Int32) = ii ((11 : Nat) : Int) := rfl
theorem k12 : (12 : Int32) = ii ((12 : Nat) : Int) := rfl
theorem k13 : (13 : Int32) = ii ((13 : Nat) : Int) := rfl
theorem k14 : (14 : Int32) = ii ((14 : Nat) : Int) := rfl
theorem k15 : (15 : Int32) = ii ((15 : Nat) : Int) := rfl
theorem k16 : (16 : Int32) = ii ((16 : Nat) : Int) := rfl
theorem k20 : (20 : Int32) = ii ((20 : Nat) : Int) := rfl
theorem k24 : (24 : Int32) = ii ((24 : Nat) : Int) := rfl
theorem k26 : (26 : Int32) = ii ((26 : Nat) : Int) := rfl
theorem k27 : (27 : Int32) = ii ((27 : Nat) : Int) := rfl
theorem k29 : (29 : Int32) = ii ((29 : Nat) : Int) := rfl
theorem k30 : (30 : Int32) = ii ((30 : Nat) : Int) := rfl
theorem k31 : (31 : Int32) = ii ((31 : Nat) : Int) := rfl
theorem k32 : (32 : Int32) = ii ((32 : Nat) : Int) := rfl
theorem k36 : (36 : Int32) = ii ((36 : Nat) : Int) := rfl
theorem k40 : (40 : Int32) = ii ((40 : Nat) : Int) := rfl
theorem k41 : (41 : Int32) = ii ((41 : Nat) : Int) := rfl
theorem k42 : (42 : Int32) = ii ((42 : Nat) : Int) := rfl
theorem k43 : (43 : Int32) = ii ((43 : Nat) : Int) := rfl
theorem k45 : (45 : Int32) = ii ((45 : Nat) : Int) := rfl
theorem k48 : (48 : Int32) = ii ((48 : Nat) : Int) := rfl
theorem k57 : (57 : Int32) = ii ((57 : Nat) : Int) := rfl
theorem k59 : (59 : Int32) = ii ((59 : Nat) : Int) := rfl
theorem k60 : (60 : Int32) = ii ((60 : Nat) : Int) := rfl
theorem k94 : (94 : Int32) = ii ((94 : Nat) : Int) := rfl
theorem k97 : (97 : Int32) = ii ((97 : Nat) : Int) := rfl
theorem k98 : (98 : Int32) = ii ((98 : Nat) : Int) := rfl
theorem k100 : (100 : Int32) = ii ((100 : Nat) : Int) := rfl
theorem k101 : (101 : Int32) = ii ((101 : Nat) : Int) := rfl
theorem k102 : (102 : Int32) = ii ((102 : Nat) : Int) := rfl
theorem k104 : (104 : Int32) = ii ((104 : Nat) : Int) := rfl
theorem k105 : (105 : Int32) = ii ((105 : Nat) : Int) := rfl
theorem k108 : (108 : Int32) = ii ((108 : Nat) : Int) := rfl
theorem k109 : (109 : Int32) = ii ((109 : Nat) : Int) := rfl
theorem k111 : (111 : Int32) = ii ((111 : Nat) : Int) := rfl
theorem k112 : (112 : Int32) = ii ((112 : Nat) : Int) := rfl
theorem k114 : (114 : Int32) = ii ((114 : Nat) : Int) := rfl
theorem k115 : (115 : Int32) = ii ((115 : Nat) : Int) := rfl
theorem k116 : (116 : Int32) = ii ((116 : Nat) : Int) := rfl
theorem k117 : (117 : Int32) = ii ((117 : Nat) : Int) := rfl
theorem k120 : (120 : Int32) = ii ((120 : Nat) : Int) := rfl
theorem k122 : (122 : Int32) = ii ((122 : Nat) : Int) := rfl
theorem k180 : (180 : Int32) = ii ((180 : Nat) : Int) := rfl
theorem k181 : (181 : Int32) = ii ((181 : Nat) : Int) := rfl
theorem k240 : (240 : Int32) = ii ((240 : Nat) : Int) := rfl
theorem k255 : (255 : Int32) = ii ((255 : Nat) : Int) := rfl
theorem k264 : (264 : Int32) = ii ((264 : Nat) : Int) := rfl
theorem k480 : (480 : Int32) = ii ((480 : Nat) : Int) := rfl
theorem k504 : (504 : Int32) = ii ((504 : Nat) : Int) := rfl
theorem k600 : (600 : Int32) = ii ((600 : Nat) : Int) := rfl
theorem k601 : (601 : Int32) = ii ((601 : Nat) : Int) := rfl
theorem k724 : (724 : Int32) = ii ((724 : Nat) : Int) := rfl
theorem k1009 : (1009 : Int32) = ii ((1009 : Nat) : Int) := rfl
theorem k1086 : (1086 : Int32) = ii ((1086 : Nat) : Int) := rfl
theorem k1728 : (1728 : Int32) = ii ((1728 : Nat) : Int) := rfl
theorem k2000 : (2000 : Int32) = ii ((2000 : Nat) : Int) := rfl
theorem k9973 : (9973 : Int32) = ii ((9973 : Nat) : Int) := rfl
theorem k99999 : (99999 : Int32) = ii ((99999 : Nat) : Int) := rfl
theorem g0 : (0 : Int64) = ll 0 := rfl
theorem g1 : (1 : Int64) = ll 1 := rfl
theorem g2 : (2 : Int64) = ll 2 := rfl
theorem g12 : (12 : Int64) = ll 12 := rfl
theorem g24 : (24 : Int64) = ll 24 := rfl
theorem g240 : (240 : Int64) = ll 240 := rfl
theorem g1728 : (1728 : Int64) = ll 1728 := rfl
theorem g504 : (504 : Int64) = ll 504 := rfl
section M
variable {S : SS} {A B : ZA} {n : (Nat × Nat) × (Nat → Nat)} {m k : Nat} {v : Int}
theorem Mv (h : LM S m) : jrecv (mz S A B n) m 9 = some () := jrecv_z h.1
theorem MI0 (h : LM S m) : jgI (mz S A B n) m 9 0 = some (ii (A m 0)) := jgI_z h.1 (by decide) rfl
theorem MP0 (h : LM S m) : jput (mz S A B n) m 9 0 (.int (ii v)) = some (mz S (za A m (up (A m) 0 v)) B n) := jput_z h.1 (by decide) rfl
theorem MI1 (h : LM S m) : jgI (mz S A B n) m 9 1 = some (ii (A m 1)) := jgI_z h.1 (by decide) rfl
theorem MP1 (h : LM S m) : jput (mz S A B n) m 9 1 (.int (ii v)) = some (mz S (za A m (up (A m) 1 v)) B n) := jput_z h.1 (by decide) rfl
theorem MR2 (h : LM S m) : jgR (mz S A B n) m 9 2 = some (m + 1) := jgR_z h.1 (by decide) rfl
theorem MR3 (h : LM S m) : jgR (mz S A B n) m 9 3 = some (m + 2) := jgR_z h.1 (by decide) rfl
theorem MR4 (h : LM S m) : jgR (mz S A B n) m 9 4 = some (m + 3) := jgR_z h.1 (by decide) rfl
theorem MR5 (h : LM S m) : jgR (mz S A B n) m 9 5 = some (m + 4) := jgR_z h.1 (by decide) rfl
theorem MR6 (h : LM S m) : jgR (mz S A B n) m 9 6 = some (m + 5) := jgR_z h.1 (by decide) rfl
theorem MI7 (h : LM S m) : jgI (mz S A B n) m 9 7 = some (ii (A m 7)) := jgI_z h.1 (by decide) rfl
theorem MP7 (h : LM S m) : jput (mz S A B n) m 9 7 (.int (ii v)) = some (mz S (za A m (up (A m) 7 v)) B n) := jput_z h.1 (by decide) rfl
theorem MR8 (h : LM S m) : jgR (mz S A B n) m 9 8 = some (m + 6) := jgR_z h.1 (by decide) rfl
theorem MR9 (h : LM S m) : jgR (mz S A B n) m 9 9 = some (m + 7) := jgR_z h.1 (by decide) rfl
theorem MR10 (h : LM S m) : jgR (mz S A B n) m 9 10 = some (m + 8) := jgR_z h.1 (by decide) rfl
theorem MR11 (h : LM S m) : jgR (mz S A B n) m 9 11 = some (m + 9) := jgR_z h.1 (by decide) rfl
theorem MI12 (h : LM S m) : jgI (mz S A B n) m 9 12 = some (ii (A m 12)) := jgI_z h.1 (by decide) rfl
theorem MP12 (h : LM S m) : jput (mz S A B n) m 9 12 (.int (ii v)) = some (mz S (za A m (up (A m) 12 v)) B n) := jput_z h.1 (by decide) rfl
theorem MI13 (h : LM S m) : jgI (mz S A B n) m 9 13 = some (ii (A m 13)) := jgI_z h.1 (by decide) rfl
theorem MP13 (h : LM S m) : jput (mz S A B n) m 9 13 (.int (ii v)) = some (mz S (za A m (up (A m) 13 v)) B n) := jput_z h.1 (by decide) rfl
theorem MI14 (h : LM S m) : jgI (mz S A B n) m 9 14 = some (ii (A m 14)) := jgI_z h.1 (by decide) rfl
theorem MP14 (h : LM S m) : jput (mz S A B n) m 9 14 (.int (ii v)) = some (mz S (za A m (up (A m) 14 v)) B n) := jput_z h.1 (by decide) rfl
theorem MI15 (h : LM S m) : jgI (mz S A B n) m 9 15 = some (ii (A m 15)) := jgI_z h.1 (by decide) rfl
theorem MP15 (h : LM S m) : jput (mz S A B n) m 9 15 (.int (ii v)) = some (mz S (za A m (up (A m) 15 v)) B n) := jput_z h.1 (by decide) rfl
theorem MI16 (h : LM S m) : jgI (mz S A B n) m 9 16 = some (ii (A m 16)) := jgI_z h.1 (by decide) rfl
theorem MP16 (h : LM S m) : jput (mz S A B n) m 9 16 (.int (ii v)) = some (mz S (za A m (up (A m) 16 v)) B n) := jput_z h.1 (by decide) rfl
theorem MI17 (h : LM S m) : jgI (mz S A B n) m 9 17 = some (ii (A m 17)) := jgI_z h.1 (by decide) rfl
theorem MP17 (h : LM S m) : jput (mz S A B n) m 9 17 (.int (ii v)) = some (mz S (za A m (up (A m) 17 v)) B n) := jput_z h.1 (by decide) rfl
theorem MI18 (h : LM S m) : jgI (mz S A B n) m 9 18 = some (ii (A m 18)) := jgI_z h.1 (by decide) rfl
theorem MP18 (h : LM S m) : jput (mz S A B n) m 9 18 (.int (ii v)) = some (mz S (za A m (up (A m) 18 v)) B n) := jput_z h.1 (by decide) rfl
theorem MI19 (h : LM S m) : jgI (mz S A B n) m 9 19 = some (ii (A m 19)) := jgI_z h.1 (by decide) rfl
theorem MP19 (h : LM S m) : jput (mz S A B n) m 9 19 (.int (ii v)) = some (mz S (za A m (up (A m) 19 v)) B n) := jput_z h.1 (by decide) rfl
theorem MR20 (h : LM S m) : jgR (mz S A B n) m 9 20 = some (m + 10) := jgR_z h.1 (by decide) rfl
theorem MR21 (h : LM S m) : jgR (mz S A B n) m 9 21 = some (m + 11) := jgR_z h.1 (by decide) rfl
theorem MI22 (h : LM S m) : jgI (mz S A B n) m 9 22 = some (ii (A m 22)) := jgI_z h.1 (by decide) rfl
theorem MP22 (h : LM S m) : jput (mz S A B n) m 9 22 (.int (ii v)) = some (mz S (za A m (up (A m) 22 v)) B n) := jput_z h.1 (by decide) rfl
theorem MR23 (h : LM S m) : jgR (mz S A B n) m 9 23 = some (m + 12) := jgR_z h.1 (by decide) rfl
theorem MR24 (h : LM S m) : jgR (mz S A B n) m 9 24 = some (m + 13) := jgR_z h.1 (by decide) rfl
theorem MR25 (h : LM S m) : jgR (mz S A B n) m 9 25 = some (m + 14) := jgR_z h.1 (by decide) rfl
theorem MR26 (h : LM S m) : jgR (mz S A B n) m 9 26 = some (m + 15) := jgR_z h.1 (by decide) rfl
theorem MI27 (h : LM S m) : jgI (mz S A B n) m 9 27 = some (ii (A m 27)) := jgI_z h.1 (by decide) rfl
theorem MP27 (h : LM S m) : jput (mz S A B n) m 9 27 (.int (ii v)) = some (mz S (za A m (up (A m) 27 v)) B n) := jput_z h.1 (by decide) rfl
theorem MR28 (h : LM S m) : jgR (mz S A B n) m 9 28 = some (m + 16) := jgR_z h.1 (by decide) rfl
theorem MR29 (h : LM S m) : jgR (mz S A B n) m 9 29 = some (m + 17) := jgR_z h.1 (by decide) rfl
theorem MI30 (h : LM S m) : jgI (mz S A B n) m 9 30 = some (ii (A m 30)) := jgI_z h.1 (by decide) rfl
theorem MP30 (h : LM S m) : jput (mz S A B n) m 9 30 (.int (ii v)) = some (mz S (za A m (up (A m) 30 v)) B n) := jput_z h.1 (by decide) rfl
theorem MR31 (h : LM S m) : jgR (mz S A B n) m 9 31 = some (m + 18) := jgR_z h.1 (by decide) rfl
theorem MR32 (h : LM S m) : jgR (mz S A B n) m 9 32 = some (m + 19) := jgR_z h.1 (by decide) rfl
theorem MI33 (h : LM S m) : jgI (mz S A B n) m 9 33 = some (ii (A m 33)) := jgI_z h.1 (by decide) rfl
theorem MP33 (h : LM S m) : jput (mz S A B n) m 9 33 (.int (ii v)) = some (mz S (za A m (up (A m) 33 v)) B n) := jput_z h.1 (by decide) rfl
theorem MR34 (h : LM S m) : jgR (mz S A B n) m 9 34 = some (m + 20) := jgR_z h.1 (by decide) rfl
theorem MI35 (h : LM S m) : jgI (mz S A B n) m 9 35 = some (ii (A m 35)) := jgI_z h.1 (by decide) rfl
theorem MP35 (h : LM S m) : jput (mz S A B n) m 9 35 (.int (ii v)) = some (mz S (za A m (up (A m) 35 v)) B n) := jput_z h.1 (by decide) rfl
theorem MR36 (h : LM S m) : jgR (mz S A B n) m 9 36 = some (m + 21) := jgR_z h.1 (by decide) rfl
theorem MR37 (h : LM S m) : jgR (mz S A B n) m 9 37 = some (m + 22) := jgR_z h.1 (by decide) rfl
theorem MR38 (h : LM S m) : jgR (mz S A B n) m 9 38 = some (m + 23) := jgR_z h.1 (by decide) rfl
theorem MI39 (h : LM S m) : jgI (mz S A B n) m 9 39 = some (ii (A m 39)) := jgI_z h.1 (by decide) rfl
theorem MP39 (h : LM S m) : jput (mz S A B n) m 9 39 (.int (ii v)) = some (mz S (za A m (up (A m) 39 v)) B n) := jput_z h.1 (by decide) rfl
theorem MR40 (h : LM S m) : jgR (mz S A B n) m 9 40 = some (m + 24) := jgR_z h.1 (by decide) rfl
theorem MR41 (h : LM S m) : jgR (mz S A B n) m 9 41 = some (m + 25) := jgR_z h.1 (by decide) rfl
theorem MI42 (h : LM S m) : jgI (mz S A B n) m 9 42 = some (ii (A m 42)) := jgI_z h.1 (by decide) rfl
theorem MP42 (h : LM S m) : jput (mz S A B n) m 9 42 (.int (ii v)) = some (mz S (za A m (up (A m) 42 v)) B n) := jput_z h.1 (by decide) rfl
theorem MR43 (h : LM S m) : jgR (mz S A B n) m 9 43 = some (m + 26) := jgR_z h.1 (by decide) rfl
theorem MR44 (h : LM S m) : jgR (mz S A B n) m 9 44 = some (m + 27) := jgR_z h.1 (by decide) rfl
theorem MR45 (h : LM S m) : jgR (mz S A B n) m 9 45 = some (m + 28) := jgR_z h.1 (by decide) rfl
theorem MR46 (h : LM S m) : jgR (mz S A B n) m 9 46 = some (m + 29) := jgR_z h.1 (by decide) rfl
theorem MR47 (h : LM S m) : jgR (mz S A B n) m 9 47 = some (m + 30) := jgR_z h.1 (by decide) rfl
theorem MR48 (h : LM S m) : jgR (mz S A B n) m 9 48 = some (m + 31) := jgR_z h.1 (by decide) rfl
theorem MR49 (h : LM S m) : jgR (mz S A B n) m 9 49 = some (m + 32) := jgR_z h.1 (by decide) rfl
theorem MR50 (h : LM S m) : jgR (mz S A B n) m 9 50 = some (m + 33) := jgR_z h.1 (by decide) rfl
theorem MS1 (h : LM S m) : S (m + 1) = some (.inr (.inl (.int, 181))) := h.2 1 .int 181 (by decide)
theorem Ma1 (h : LM S m) (hk : k < 181) : jaI (mz S A B n) (m + 1) (ii (k : Int)) = some (ii (A (m + 1) k)) := jaI_n (MS1 h) hk (by omega)
theorem Ms1 (h : LM S m) (hk : k < 181) : jsI (mz S A B n) (m + 1) (ii (k : Int)) (ii v) = some (mz S (za A (m + 1) (up (A (m + 1)) k v)) B n) := jsI_v (MS1 h) hk (by omega)
theorem MS2 (h : LM S m) : S (m + 2) = some (.inr (.inl (.int, 181))) := h.2 2 .int 181 (by decide)
theorem Ma2 (h : LM S m) (hk : k < 181) : jaI (mz S A B n) (m + 2) (ii (k : Int)) = some (ii (A (m + 2) k)) := jaI_n (MS2 h) hk (by omega)
theorem Ms2 (h : LM S m) (hk : k < 181) : jsI (mz S A B n) (m + 2) (ii (k : Int)) (ii v) = some (mz S (za A (m + 2) (up (A (m + 2)) k v)) B n) := jsI_v (MS2 h) hk (by omega)
theorem MS3 (h : LM S m) : S (m + 3) = some (.inr (.inl (.int, 181))) := h.2 3 .int 181 (by decide)
theorem Ma3 (h : LM S m) (hk : k < 181) : jaI (mz S A B n) (m + 3) (ii (k : Int)) = some (ii (A (m + 3) k)) := jaI_n (MS3 h) hk (by omega)
theorem Ms3 (h : LM S m) (hk : k < 181) : jsI (mz S A B n) (m + 3) (ii (k : Int)) (ii v) = some (mz S (za A (m + 3) (up (A (m + 3)) k v)) B n) := jsI_v (MS3 h) hk (by omega)
theorem MS4 (h : LM S m) : S (m + 4) = some (.inr (.inl (.int, 181))) := h.2 4 .int 181 (by decide)
theorem Ma4 (h : LM S m) (hk : k < 181) : jaI (mz S A B n) (m + 4) (ii (k : Int)) = some (ii (A (m + 4) k)) := jaI_n (MS4 h) hk (by omega)
theorem Ms4 (h : LM S m) (hk : k < 181) : jsI (mz S A B n) (m + 4) (ii (k : Int)) (ii v) = some (mz S (za A (m + 4) (up (A (m + 4)) k v)) B n) := jsI_v (MS4 h) hk (by omega)
theorem MS5 (h : LM S m) : S (m + 5) = some (.inr (.inl (.int, 181))) := h.2 5 .int 181 (by decide)
theorem Ma5 (h : LM S m) (hk : k < 181) : jaI (mz S A B n) (m + 5) (ii (k : Int)) = some (ii (A (m + 5) k)) := jaI_n (MS5 h) hk (by omega)
theorem Ms5 (h : LM S m) (hk : k < 181) : jsI (mz S A B n) (m + 5) (ii (k : Int)) (ii v) = some (mz S (za A (m + 5) (up (A (m + 5)) k v)) B n) := jsI_v (MS5 h) hk (by omega)
theorem MS6 (h : LM S m) : S (m + 6) = some (.inr (.inl (.int, 1086))) := h.2 6 .int 1086 (by decide)
theorem Ma6 (h : LM S m) (hk : k < 1086) : jaI (mz S A B n) (m + 6) (ii (k : Int)) = some (ii (A (m + 6) k)) := jaI_n (MS6 h) hk (by omega)
theorem Ms6 (h : LM S m) (hk : k < 1086) : jsI (mz S A B n) (m + 6) (ii (k : Int)) (ii v) = some (mz S (za A (m + 6) (up (A (m + 6)) k v)) B n) := jsI_v (MS6 h) hk (by omega)
theorem MS7 (h : LM S m) : S (m + 7) = some (.inr (.inl (.int, 6))) := h.2 7 .int 6 (by decide)
theorem Ma7 (h : LM S m) (hk : k < 6) : jaI (mz S A B n) (m + 7) (ii (k : Int)) = some (ii (A (m + 7) k)) := jaI_n (MS7 h) hk (by omega)
theorem Ms7 (h : LM S m) (hk : k < 6) : jsI (mz S A B n) (m + 7) (ii (k : Int)) (ii v) = some (mz S (za A (m + 7) (up (A (m + 7)) k v)) B n) := jsI_v (MS7 h) hk (by omega)
theorem MS8 (h : LM S m) : S (m + 8) = some (.inr (.inl (.int, 181))) := h.2 8 .int 181 (by decide)
theorem Ma8 (h : LM S m) (hk : k < 181) : jaI (mz S A B n) (m + 8) (ii (k : Int)) = some (ii (A (m + 8) k)) := jaI_n (MS8 h) hk (by omega)
theorem Ms8 (h : LM S m) (hk : k < 181) : jsI (mz S A B n) (m + 8) (ii (k : Int)) (ii v) = some (mz S (za A (m + 8) (up (A (m + 8)) k v)) B n) := jsI_v (MS8 h) hk (by omega)
theorem MS9 (h : LM S m) : S (m + 9) = some (.inr (.inl (.byte, 600))) := h.2 9 .byte 600 (by decide)
theorem Ma9 (h : LM S m) (hk : k < 600) : jaB (mz S A B n) (m + 9) (ii (k : Int)) = some (ii (A (m + 9) k)) := jaB_n (MS9 h) hk (by omega)
theorem MS10 (h : LM S m) : S (m + 10) = some (.inr (.inl (.int, 6))) := h.2 10 .int 6 (by decide)
theorem Ma10 (h : LM S m) (hk : k < 6) : jaI (mz S A B n) (m + 10) (ii (k : Int)) = some (ii (A (m + 10) k)) := jaI_n (MS10 h) hk (by omega)
theorem Ms10 (h : LM S m) (hk : k < 6) : jsI (mz S A B n) (m + 10) (ii (k : Int)) (ii v) = some (mz S (za A (m + 10) (up (A (m + 10)) k v)) B n) := jsI_v (MS10 h) hk (by omega)
theorem MS11 (h : LM S m) : S (m + 11) = some (.inr (.inl (.int, 1086))) := h.2 11 .int 1086 (by decide)
theorem Ma11 (h : LM S m) (hk : k < 1086) : jaI (mz S A B n) (m + 11) (ii (k : Int)) = some (ii (A (m + 11) k)) := jaI_n (MS11 h) hk (by omega)
theorem Ms11 (h : LM S m) (hk : k < 1086) : jsI (mz S A B n) (m + 11) (ii (k : Int)) (ii v) = some (mz S (za A (m + 11) (up (A (m + 11)) k v)) B n) := jsI_v (MS11 h) hk (by omega)
theorem MS12 (h : LM S m) : S (m + 12) = some (.inr (.inl (.int, 6))) := h.2 12 .int 6 (by decide)
theorem Ma12 (h : LM S m) (hk : k < 6) : jaI (mz S A B n) (m + 12) (ii (k : Int)) = some (ii (A (m + 12) k)) := jaI_n (MS12 h) hk (by omega)
theorem Ms12 (h : LM S m) (hk : k < 6) : jsI (mz S A B n) (m + 12) (ii (k : Int)) (ii v) = some (mz S (za A (m + 12) (up (A (m + 12)) k v)) B n) := jsI_v (MS12 h) hk (by omega)
theorem MS13 (h : LM S m) : S (m + 13) = some (.inr (.inl (.int, 36))) := h.2 13 .int 36 (by decide)
theorem Ma13 (h : LM S m) (hk : k < 36) : jaI (mz S A B n) (m + 13) (ii (k : Int)) = some (ii (A (m + 13) k)) := jaI_n (MS13 h) hk (by omega)
theorem Ms13 (h : LM S m) (hk : k < 36) : jsI (mz S A B n) (m + 13) (ii (k : Int)) (ii v) = some (mz S (za A (m + 13) (up (A (m + 13)) k v)) B n) := jsI_v (MS13 h) hk (by omega)
theorem MS14 (h : LM S m) : S (m + 14) = some (.inr (.inl (.int, 6))) := h.2 14 .int 6 (by decide)
theorem Ma14 (h : LM S m) (hk : k < 6) : jaI (mz S A B n) (m + 14) (ii (k : Int)) = some (ii (A (m + 14) k)) := jaI_n (MS14 h) hk (by omega)
theorem Ms14 (h : LM S m) (hk : k < 6) : jsI (mz S A B n) (m + 14) (ii (k : Int)) (ii v) = some (mz S (za A (m + 14) (up (A (m + 14)) k v)) B n) := jsI_v (MS14 h) hk (by omega)
theorem MS15 (h : LM S m) : S (m + 15) = some (.inr (.inl (.int, 1086))) := h.2 15 .int 1086 (by decide)
theorem Ma15 (h : LM S m) (hk : k < 1086) : jaI (mz S A B n) (m + 15) (ii (k : Int)) = some (ii (A (m + 15) k)) := jaI_n (MS15 h) hk (by omega)
theorem Ms15 (h : LM S m) (hk : k < 1086) : jsI (mz S A B n) (m + 15) (ii (k : Int)) (ii v) = some (mz S (za A (m + 15) (up (A (m + 15)) k v)) B n) := jsI_v (MS15 h) hk (by omega)
theorem MS16 (h : LM S m) : S (m + 16) = some (.inr (.inl (.int, 30))) := h.2 16 .int 30 (by decide)
theorem Ma16 (h : LM S m) (hk : k < 30) : jaI (mz S A B n) (m + 16) (ii (k : Int)) = some (ii (A (m + 16) k)) := jaI_n (MS16 h) hk (by omega)
theorem Ms16 (h : LM S m) (hk : k < 30) : jsI (mz S A B n) (m + 16) (ii (k : Int)) (ii v) = some (mz S (za A (m + 16) (up (A (m + 16)) k v)) B n) := jsI_v (MS16 h) hk (by omega)
theorem MS17 (h : LM S m) : S (m + 17) = some (.inr (.inl (.int, 5430))) := h.2 17 .int 5430 (by decide)
theorem Ma17 (h : LM S m) (hk : k < 5430) : jaI (mz S A B n) (m + 17) (ii (k : Int)) = some (ii (A (m + 17) k)) := jaI_n (MS17 h) hk (by omega)
theorem Ms17 (h : LM S m) (hk : k < 5430) : jsI (mz S A B n) (m + 17) (ii (k : Int)) (ii v) = some (mz S (za A (m + 17) (up (A (m + 17)) k v)) B n) := jsI_v (MS17 h) hk (by omega)
theorem MS18 (h : LM S m) : S (m + 18) = some (.inr (.inl (.int, 4))) := h.2 18 .int 4 (by decide)
theorem Ma18 (h : LM S m) (hk : k < 4) : jaI (mz S A B n) (m + 18) (ii (k : Int)) = some (ii (A (m + 18) k)) := jaI_n (MS18 h) hk (by omega)
theorem Ms18 (h : LM S m) (hk : k < 4) : jsI (mz S A B n) (m + 18) (ii (k : Int)) (ii v) = some (mz S (za A (m + 18) (up (A (m + 18)) k v)) B n) := jsI_v (MS18 h) hk (by omega)
theorem MS19 (h : LM S m) : S (m + 19) = some (.inr (.inl (.int, 724))) := h.2 19 .int 724 (by decide)
theorem Ma19 (h : LM S m) (hk : k < 724) : jaI (mz S A B n) (m + 19) (ii (k : Int)) = some (ii (A (m + 19) k)) := jaI_n (MS19 h) hk (by omega)
theorem Ms19 (h : LM S m) (hk : k < 724) : jsI (mz S A B n) (m + 19) (ii (k : Int)) (ii v) = some (mz S (za A (m + 19) (up (A (m + 19)) k v)) B n) := jsI_v (MS19 h) hk (by omega)
theorem MS20 (h : LM S m) : S (m + 20) = some (.inr (.inl (.int, 36))) := h.2 20 .int 36 (by decide)
theorem Ma20 (h : LM S m) (hk : k < 36) : jaI (mz S A B n) (m + 20) (ii (k : Int)) = some (ii (A (m + 20) k)) := jaI_n (MS20 h) hk (by omega)
theorem Ms20 (h : LM S m) (hk : k < 36) : jsI (mz S A B n) (m + 20) (ii (k : Int)) (ii v) = some (mz S (za A (m + 20) (up (A (m + 20)) k v)) B n) := jsI_v (MS20 h) hk (by omega)
theorem MS21 (h : LM S m) : S (m + 21) = some (.inr (.inl (.int, 7))) := h.2 21 .int 7 (by decide)
theorem Ma21 (h : LM S m) (hk : k < 7) : jaI (mz S A B n) (m + 21) (ii (k : Int)) = some (ii (A (m + 21) k)) := jaI_n (MS21 h) hk (by omega)
theorem Ms21 (h : LM S m) (hk : k < 7) : jsI (mz S A B n) (m + 21) (ii (k : Int)) (ii v) = some (mz S (za A (m + 21) (up (A (m + 21)) k v)) B n) := jsI_v (MS21 h) hk (by omega)
theorem MS22 (h : LM S m) : S (m + 22) = some (.inr (.inl (.int, 36))) := h.2 22 .int 36 (by decide)
theorem Ma22 (h : LM S m) (hk : k < 36) : jaI (mz S A B n) (m + 22) (ii (k : Int)) = some (ii (A (m + 22) k)) := jaI_n (MS22 h) hk (by omega)
theorem Ms22 (h : LM S m) (hk : k < 36) : jsI (mz S A B n) (m + 22) (ii (k : Int)) (ii v) = some (mz S (za A (m + 22) (up (A (m + 22)) k v)) B n) := jsI_v (MS22 h) hk (by omega)
theorem MS23 (h : LM S m) : S (m + 23) = some (.inr (.inl (.int, 36))) := h.2 23 .int 36 (by decide)
theorem Ma23 (h : LM S m) (hk : k < 36) : jaI (mz S A B n) (m + 23) (ii (k : Int)) = some (ii (A (m + 23) k)) := jaI_n (MS23 h) hk (by omega)
theorem Ms23 (h : LM S m) (hk : k < 36) : jsI (mz S A B n) (m + 23) (ii (k : Int)) (ii v) = some (mz S (za A (m + 23) (up (A (m + 23)) k v)) B n) := jsI_v (MS23 h) hk (by omega)
theorem MS24 (h : LM S m) : S (m + 24) = some (.inr (.inl (.int, 6))) := h.2 24 .int 6 (by decide)
theorem Ma24 (h : LM S m) (hk : k < 6) : jaI (mz S A B n) (m + 24) (ii (k : Int)) = some (ii (A (m + 24) k)) := jaI_n (MS24 h) hk (by omega)
theorem Ms24 (h : LM S m) (hk : k < 6) : jsI (mz S A B n) (m + 24) (ii (k : Int)) (ii v) = some (mz S (za A (m + 24) (up (A (m + 24)) k v)) B n) := jsI_v (MS24 h) hk (by omega)
theorem MS25 (h : LM S m) : S (m + 25) = some (.inr (.inl (.int, 36))) := h.2 25 .int 36 (by decide)
theorem Ma25 (h : LM S m) (hk : k < 36) : jaI (mz S A B n) (m + 25) (ii (k : Int)) = some (ii (A (m + 25) k)) := jaI_n (MS25 h) hk (by omega)
theorem Ms25 (h : LM S m) (hk : k < 36) : jsI (mz S A B n) (m + 25) (ii (k : Int)) (ii v) = some (mz S (za A (m + 25) (up (A (m + 25)) k v)) B n) := jsI_v (MS25 h) hk (by omega)
theorem MS26 (h : LM S m) : S (m + 26) = some (.inr (.inl (.boolean, 8))) := h.2 26 .boolean 8 (by decide)
theorem Ma26 (h : LM S m) (hk : k < 8) : jaB (mz S A B n) (m + 26) (ii (k : Int)) = some (ii (A (m + 26) k)) := jaB_nb (MS26 h) hk (by omega)
theorem Ms26 (h : LM S m) (hk : k < 8) (hv : v = 0 ∨ v = 1) : jsB (mz S A B n) (m + 26) (ii (k : Int)) (ii v) = some (mz S (za A (m + 26) (up (A (m + 26)) k v)) B n) := jsB_zb (MS26 h) rfl hk (by omega) hv
theorem MS27 (h : LM S m) : S (m + 27) = some (.inr (.inl (.long, 104))) := h.2 27 .long 104 (by decide)
theorem Ma27 (h : LM S m) (hk : k < 104) : jaJ (mz S A B n) (m + 27) (ii (k : Int)) = some (ll (B (m + 27) k)) := jaJ_n (MS27 h) hk (by omega)
theorem Ms27 (h : LM S m) (hk : k < 104) : jsJ (mz S A B n) (m + 27) (ii (k : Int)) (ll v) = some (mz S A (za B (m + 27) (up (B (m + 27)) k v)) n) := jsJ_v (MS27 h) hk (by omega)
theorem MS28 (h : LM S m) : S (m + 28) = some (.inr (.inl (.boolean, 2))) := h.2 28 .boolean 2 (by decide)
theorem Ma28 (h : LM S m) (hk : k < 2) : jaB (mz S A B n) (m + 28) (ii (k : Int)) = some (ii (A (m + 28) k)) := jaB_nb (MS28 h) hk (by omega)
theorem Ms28 (h : LM S m) (hk : k < 2) (hv : v = 0 ∨ v = 1) : jsB (mz S A B n) (m + 28) (ii (k : Int)) (ii v) = some (mz S (za A (m + 28) (up (A (m + 28)) k v)) B n) := jsB_zb (MS28 h) rfl hk (by omega) hv
theorem MS29 (h : LM S m) : S (m + 29) = some (.inr (.inl (.int, 2))) := h.2 29 .int 2 (by decide)
theorem Ma29 (h : LM S m) (hk : k < 2) : jaI (mz S A B n) (m + 29) (ii (k : Int)) = some (ii (A (m + 29) k)) := jaI_n (MS29 h) hk (by omega)
theorem Ms29 (h : LM S m) (hk : k < 2) : jsI (mz S A B n) (m + 29) (ii (k : Int)) (ii v) = some (mz S (za A (m + 29) (up (A (m + 29)) k v)) B n) := jsI_v (MS29 h) hk (by omega)
theorem MS30 (h : LM S m) : S (m + 30) = some (.inr (.inl (.int, 8))) := h.2 30 .int 8 (by decide)
theorem Ma30 (h : LM S m) (hk : k < 8) : jaI (mz S A B n) (m + 30) (ii (k : Int)) = some (ii (A (m + 30) k)) := jaI_n (MS30 h) hk (by omega)
theorem Ms30 (h : LM S m) (hk : k < 8) : jsI (mz S A B n) (m + 30) (ii (k : Int)) (ii v) = some (mz S (za A (m + 30) (up (A (m + 30)) k v)) B n) := jsI_v (MS30 h) hk (by omega)
theorem MS31 (h : LM S m) : S (m + 31) = some (.inr (.inl (.int, 1448))) := h.2 31 .int 1448 (by decide)
theorem Ma31 (h : LM S m) (hk : k < 1448) : jaI (mz S A B n) (m + 31) (ii (k : Int)) = some (ii (A (m + 31) k)) := jaI_n (MS31 h) hk (by omega)
theorem Ms31 (h : LM S m) (hk : k < 1448) : jsI (mz S A B n) (m + 31) (ii (k : Int)) (ii v) = some (mz S (za A (m + 31) (up (A (m + 31)) k v)) B n) := jsI_v (MS31 h) hk (by omega)
theorem MS32 (h : LM S m) : S (m + 32) = some (.inr (.inl (.boolean, 16))) := h.2 32 .boolean 16 (by decide)
theorem Ma32 (h : LM S m) (hk : k < 16) : jaB (mz S A B n) (m + 32) (ii (k : Int)) = some (ii (A (m + 32) k)) := jaB_nb (MS32 h) hk (by omega)
theorem Ms32 (h : LM S m) (hk : k < 16) (hv : v = 0 ∨ v = 1) : jsB (mz S A B n) (m + 32) (ii (k : Int)) (ii v) = some (mz S (za A (m + 32) (up (A (m + 32)) k v)) B n) := jsB_zb (MS32 h) rfl hk (by omega) hv
theorem MS33 (h : LM S m) : S (m + 33) = some (.inr (.inl (.long, 208))) := h.2 33 .long 208 (by decide)
theorem Ma33 (h : LM S m) (hk : k < 208) : jaJ (mz S A B n) (m + 33) (ii (k : Int)) = some (ll (B (m + 33) k)) := jaJ_n (MS33 h) hk (by omega)
theorem Ms33 (h : LM S m) (hk : k < 208) : jsJ (mz S A B n) (m + 33) (ii (k : Int)) (ll v) = some (mz S A (za B (m + 33) (up (B (m + 33)) k v)) n) := jsJ_v (MS33 h) hk (by omega)
end M
